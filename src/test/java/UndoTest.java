/** Promises 38 to 41, and section 5 of the terms. */
public final class UndoTest {
    private static final Expect EXPECT = new Expect();

    public static void main(String[] args) {
        promise38();
        undoOfEachChange();
        whatUndoLeaves();
        promises39And40();
        promise41();
        EXPECT.end("UndoTest");
    }

    private static void promise38() {
        HallPhone phone = Expect.house("house 0 1;");
        EXPECT.same("none", phone.undo(), -1);
        long[] sums = new long[11];
        for (int i = 0; i < 10; i++) {
            sums[i] = phone.checksum();
            phone.pass(i + 1);
            EXPECT.same("changes", phone.size(11), Math.min(i + 1, 8));
        }
        for (int left = 7; left >= 0; left--) {
            EXPECT.same("undo", phone.undo(), left);
            EXPECT.same("house with " + left, phone.checksum(), sums[left + 2]);
        }
        EXPECT.same("none is left", phone.undo(), -1);
        EXPECT.same("the house stays", phone.checksum(), sums[2]);
        // Undone changes make room, and new ones follow.
        phone.set(0, 1);
        phone.set(0, 2);
        phone.undo();
        phone.set(0, 3);
        EXPECT.same("two", phone.undo() * 10 + phone.setting(0), 11);
        EXPECT.same("one", phone.undo() * 10 + phone.setting(0), 0);
    }

    /** What the next minutes bring shows more than the checksum: who will speak how long. */
    private static long sumLater(HallPhone phone) {
        phone.pass(30);
        long sum = phone.checksum();
        phone.undo();
        return sum;
    }

    private static void undone(HallPhone phone, String name, Runnable change) {
        int count = phone.size(11);
        long before = phone.checksum();
        long later = sumLater(phone);
        double mean = phone.meanCall();
        change.run();
        EXPECT.same(name + " is a change", phone.size(11), count + 1);
        EXPECT.same("undo of " + name, phone.undo(), count);
        EXPECT.same("house behind undo of " + name, phone.checksum(), before);
        EXPECT.same("30 minutes behind undo of " + name, sumLater(phone), later);
        EXPECT.same("mean behind undo of " + name, phone.meanCall(), mean);
    }

    private static void undoOfEachChange() {
        HallPhone phone = Expect.house("house 0 curious 1 2 curious 3 9;want 0 4;pass 5;want 0 30;want 3 8;pass 6;");
        undone(phone, "want", () -> phone.want(1, 5));
        undone(phone, "drop", () -> phone.drop(3));
        undone(phone, "hang", () -> phone.hang(0));
        undone(phone, "pay", () -> phone.pay(0, 3));
        undone(phone, "setCurious", () -> phone.setCurious(1, true));
        undone(phone, "setCurious as it was", () -> phone.setCurious(1, false));
        undone(phone, "set", () -> phone.set(4, 1));
        undone(phone, "set as it was", () -> phone.set(4, 5));
        undone(phone, "pass", () -> phone.pass(999));
        phone.hang(0);
        undone(phone, "ring that is HELD", () -> phone.ring(1, 5));
        undone(phone, "ring for one in the queue", () -> phone.ring(3, 5));
        undone(phone, "ring that is a message", () -> phone.ring(4, 5));
        HallPhone full = Expect.house("house 0 9;want 0 3;pass 9;ring 1 1;ring 1 1;ring 1 1;ring 1 1;ring 1 1;ring 1 1;"
                + "ring 1 1;ring 1 1;");
        undone(full, "ring that is LOST", () -> full.ring(1, 1));
    }

    private static void whatUndoLeaves() {
        HallPhone phone = Expect.house("house 0 1;");
        phone.want(0, 5);
        phone.pass(3);
        phone.append(0, 0, 0, 0, 0);
        phone.writeHouse();
        phone.saveSnapshot(0);
        EXPECT.same("a snapshot is no change", phone.size(11), 2);
        EXPECT.same("undo", phone.undo(), 1);
        EXPECT.same("buffer", phone.size(12), 20);
        EXPECT.same("report", Expect.report(phone), "0!3 1.");
        EXPECT.same("the snapshot is of later", phone.restoreSnapshot(0), 3);
        EXPECT.same("nothing can be undone then", phone.undo(), -1);
        EXPECT.same("buffer", phone.size(12), 20);
        EXPECT.same("report", Expect.report(phone), "0!3 1.");
        // Refusals and exceptions are no changes.
        EXPECT.same("refused", phone.want(0, 5) + phone.drop(0) + phone.hang(1) + phone.ring(1, 1) + phone.pay(0, 1),
                -20);
        EXPECT.argument("thrown", () -> phone.set(0, 61));
        EXPECT.index("thrown", () -> phone.setCurious(2, true));
        phone.parse(20);
        EXPECT.same("no changes", phone.size(11), 0);
        // What would be, and questions, are no changes either.
        long before = phone.checksum();
        phone.waitIf(1);
        phone.bestLimit();
        phone.flatIn(0, 500);
        phone.freeIn();
        phone.speaksIn(1);
        EXPECT.same("house", phone.checksum(), before);
        EXPECT.same("no changes", phone.size(11), 0);
        EXPECT.same("no undo", phone.undo(), -1);
    }

    private static void promises39And40() {
        HallPhone phone = Expect.house("house 0 1;want 0 9;");
        EXPECT.noElement("empty", () -> phone.restoreSnapshot(0));
        EXPECT.same("first", phone.saveSnapshot(0), false);
        EXPECT.noElement("the other one is empty", () -> phone.restoreSnapshot(1));
        phone.pass(4);
        phone.ring(1, 3);
        long four = phone.checksum();
        EXPECT.same("the other one", phone.saveSnapshot(1), false);
        phone.pass(6);
        phone.want(1, 2);
        EXPECT.same("changes", phone.size(11), 3);
        EXPECT.same("restore 1", phone.restoreSnapshot(1), 4);
        EXPECT.same("house", phone.checksum(), four);
        EXPECT.same("undo", phone.undo(), -1);
        phone.pass(2);
        EXPECT.same("it stays stored", phone.restoreSnapshot(1), 4);
        EXPECT.same("house", phone.checksum(), four);
        EXPECT.same("restore 0", phone.restoreSnapshot(0), 0);
        EXPECT.same("COMING", Expect.houseOf(phone), "0<1 1.");
        phone.pass(7);
        EXPECT.same("in place of the earlier one", phone.saveSnapshot(0), true);
        phone.pass(7);
        EXPECT.same("restore 0", phone.restoreSnapshot(0), 7);
        EXPECT.same("restore 1", phone.restoreSnapshot(1), 4);
        int[] none = {-1, 2, 32, Integer.MIN_VALUE, Integer.MAX_VALUE};
        for (int slot : none) {
            EXPECT.argument("save " + slot, () -> phone.saveSnapshot(slot));
            EXPECT.argument("restore " + slot, () -> phone.restoreSnapshot(slot));
        }
        // Another house, with another number of flats.
        phone.load(0);
        EXPECT.same("gone", phone.saveSnapshot(0), false);
        EXPECT.same("gone", phone.saveSnapshot(1), false);
    }

    private static long checksum(HallPhone phone) {
        java.util.List<Integer> row = new java.util.ArrayList<>();
        for (int what = 0; what <= 10; what++) {
            row.add(phone.size(what));
        }
        for (int which = 0; which <= 5; which++) {
            row.add(phone.setting(which));
        }
        for (int flat = 0; flat < phone.size(0); flat++) {
            for (int what = 0; what <= 10; what++) {
                row.add(phone.flat(flat, what));
            }
            for (int other = 0; other < phone.size(0); other++) {
                row.add(phone.heard(flat, other));
            }
        }
        for (int message = 0; message < phone.size(9); message++) {
            row.add(phone.message(message, 0));
            row.add(phone.message(message, 1));
        }
        for (int what = 0; what <= 9; what++) {
            row.add(phone.account(what));
        }
        long sum = 0;
        for (int n : row) {
            sum = 31 * sum + n;
        }
        return sum;
    }

    private static void promise41() {
        HallPhone phone = new HallPhone();
        for (int text = 0; text < 3; text++) {
            phone.load(text);
            for (int i = 0; i < 20; i++) {
                EXPECT.same("checksum of text " + text, phone.checksum(), checksum(phone));
                phone.want(i % phone.size(0), 3);
                phone.hang(0);
                phone.ring(i % phone.size(0), 2);
                phone.pass(3);
            }
        }
    }
}
