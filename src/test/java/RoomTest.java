import java.lang.management.ManagementFactory;

/** All calls of a run live in one room of some 600,000 objects and 7.3 million elements: a run has to stay far below. */
public final class RoomTest {
    private static final int CALLS = 512;
    /** A tenth of the room, at 16 bytes an object and 4 an element. */
    private static final long MOST_BYTES = 3_900_000L;

    private static long bytesMade() {
        return ((com.sun.management.ThreadMXBean) ManagementFactory.getThreadMXBean())
                .getCurrentThreadAllocatedBytes();
    }

    private static void run(Expect expect, String name, java.util.function.IntConsumer call) {
        call.accept(0);
        long before = bytesMade();
        for (int i = 0; i < CALLS; i++) {
            call.accept(i);
        }
        long made = bytesMade() - before;
        expect.same(name + " makes " + made + " bytes, little enough", made < MOST_BYTES, true);
    }

    public static void main(String[] args) {
        Expect expect = new Expect();
        HallPhone phone = Expect.house("house 0 1 2 3 4 5 6 7 8 9;want 0 99;want 3 99;want 9 99;pass 2;");
        run(expect, "load", i -> phone.load(i % 3));
        run(expect, "append and parse", i -> {
            phone.append(0x686f7573, 0x6520313b, 0x70617373, 0x20393939, 0x3b202020);
            phone.parse(17);
        });
        run(expect, "pass", i -> phone.pass(999));
        run(expect, "undo", i -> phone.undo());
        run(expect, "snapshots", i -> {
            phone.saveSnapshot(i % 2);
            phone.restoreSnapshot(i % 2);
        });
        run(expect, "bestLimit", i -> {
            phone.want(0, 99);
            phone.bestLimit();
        });
        run(expect, "what would be", i -> {
            phone.speaksIn(0);
            phone.freeIn();
            phone.waitIf(0);
            phone.learnsIn(0, 500);
        });
        run(expect, "reports", i -> {
            phone.writeHouse();
            phone.writeSlate();
        });
        run(expect, "checksum", i -> phone.checksum());
        // Even a run that makes a new object with each call fits.
        long before = bytesMade();
        for (int i = 0; i < CALLS; i++) {
            new HallPhone();
        }
        long made = bytesMade() - before;
        expect.same("512 objects make " + made + " bytes, less than the room", made < 10 * MOST_BYTES, true);
        expect.end("RoomTest");
    }
}
