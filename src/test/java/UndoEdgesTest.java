import java.math.BigInteger;
import java.util.NoSuchElementException;

/** The edges that section 5, changes, and promises 38 to 41 name: a case for each sentence. */
public final class UndoEdgesTest {
    private static final Expect EXPECT = new Expect();
    private static final Class<IllegalArgumentException> ARGUMENT = IllegalArgumentException.class;

    public static void main(String[] args) {
        EXPECT.runCases(UndoEdgesTest.class);
    }

    // ---- changes

    /** "Each call of a method below "changes" that throws no exception and is not refused is a change" */
    static void eachMethodBelowChangesIsAChange() {
        HallPhone phone = Expect.house("house 0 9 0;want 2 3;pass 9;");
        phone.want(0, 5);
        EXPECT.same("want", phone.size(11), 1);
        phone.drop(0);
        EXPECT.same("drop", phone.size(11), 2);
        phone.ring(0, 5);
        EXPECT.same("ring", phone.size(11), 3);
        phone.pass(1);
        EXPECT.same("pass", phone.size(11), 4);
        phone.hang(0);
        EXPECT.same("hang", phone.size(11), 5);
        phone.pay(2, 1);
        EXPECT.same("pay", phone.size(11), 6);
        phone.setCurious(0, true);
        EXPECT.same("setCurious", phone.size(11), 7);
        phone.set(0, 1);
        EXPECT.same("set", phone.size(11), 8);
    }

    /** "also if it alters nothing" */
    static void whatAltersNothingIsAChange() {
        HallPhone phone = Expect.house("house 0;");
        long before = phone.checksum();
        phone.set(1, 3);
        phone.setCurious(0, false);
        EXPECT.same("house", phone.checksum(), before);
        EXPECT.same("changes", phone.size(11), 2);
        EXPECT.same("undo", phone.undo() * 10 + phone.undo(), 10);
    }

    /** The same sentence: a call that is LOST is not refused. */
    static void aLostCallIsAChange() {
        HallPhone phone = Expect.house("house 9;" + "ring 0 1;".repeat(8));
        EXPECT.same("LOST", phone.ring(0, 1) * 10 + phone.size(11), 31);
        EXPECT.same("undone", phone.undo() * 10 + phone.account(8), 0);
    }

    /** The same sentence: what is refused is none, also behind eight changes. */
    static void whatIsRefusedIsNoChange() {
        HallPhone phone = Expect.house("house 0 0;want 0 9;pass 1;");
        EXPECT.refused("want", phone, 2, () -> phone.want(0, 5));
        EXPECT.refused("drop", phone, 3, () -> phone.drop(0));
        EXPECT.refused("hang", phone, 4, () -> phone.hang(1));
        EXPECT.refused("ring", phone, 5, () -> phone.ring(1, 5));
        EXPECT.refused("pay", phone, 6, () -> phone.pay(0, 5));
        for (int i = 0; i < 8; i++) {
            phone.set(0, i);
        }
        phone.want(0, 5);
        phone.pay(0, 5);
        EXPECT.same("undo", phone.undo() * 10 + phone.setting(0), 76);
    }

    /** The same sentence: what throws is none. */
    static void whatThrowsIsNoChange() {
        HallPhone phone = Expect.house("house 0 0;");
        for (int i = 0; i < 8; i++) {
            phone.set(0, i);
        }
        EXPECT.argument("want", () -> phone.want(0, 0));
        EXPECT.index("drop", () -> phone.drop(2));
        EXPECT.argument("set", () -> phone.set(0, 61));
        EXPECT.argument("pass", () -> phone.pass(0));
        EXPECT.same("undo", phone.undo() * 10 + phone.setting(0), 76);
    }

    /** The same sentence: texts, questions, reports, undo and snapshots are none. */
    static void otherMethodsAreNoChanges() {
        HallPhone phone = new HallPhone();
        phone.append(0, 0, 0, 0, 0);
        phone.writeHouse();
        phone.saveSnapshot(0);
        phone.saveSnapshot(0);
        phone.bestLimit();
        phone.waitIf(2);
        EXPECT.same("changes", phone.size(11), 0);
        phone.parse(0);
        EXPECT.same("behind an error", phone.size(11), 0);
    }

    // ---- undo

    /** "The latest 8 changes can be undone": not a ninth one */
    static void eightChangesCanBeUndone() {
        for (int changes = 7; changes <= 10; changes++) {
            HallPhone phone = Expect.house("house 0;");
            for (int i = 1; i <= changes; i++) {
                phone.set(0, i);
            }
            for (int left = Math.min(changes, 8) - 1; left >= 0; left--) {
                EXPECT.same("undo", phone.undo(), left);
            }
            EXPECT.same("no more", phone.undo(), -1);
            EXPECT.same("LIMIT of " + changes, phone.setting(0), Math.max(0, changes - 8));
        }
    }

    /** "the latest first" */
    static void theLatestChangeIsUndoneFirst() {
        HallPhone phone = Expect.house("house 0;");
        for (int i = 1; i <= 30; i++) {
            phone.set(0, i);
        }
        for (int i = 29; i >= 22; i--) {
            phone.undo();
            EXPECT.same("LIMIT", phone.setting(0), i);
        }
    }

    /** Promise 38: "the latest change that has not been undone": new changes follow those that stay */
    static void changesFollowThoseThatWereUndone() {
        HallPhone phone = Expect.house("house 0;");
        for (int i = 1; i <= 12; i++) {
            phone.set(0, i);
        }
        for (int i = 0; i < 5; i++) {
            phone.undo();
        }
        EXPECT.same("three are left", phone.size(11) * 100 + phone.setting(0), 307);
        for (int i = 21; i <= 24; i++) {
            phone.set(0, i);
        }
        int[] due = {23, 22, 21, 7, 6, 5, 4};
        for (int i = 0; i < 7; i++) {
            EXPECT.same("undo", phone.undo() * 100 + phone.setting(0), (6 - i) * 100 + due[i]);
        }
        EXPECT.same("no more", phone.undo(), -1);
    }

    /** Promise 38: "NONE if there was none to undo": again and again, and nothing changes */
    static void undoOfNothingIsNone() {
        HallPhone phone = new HallPhone();
        String before = Expect.all(phone);
        for (int i = 0; i < 3; i++) {
            EXPECT.same("undo", phone.undo(), -1);
            EXPECT.same("all", Expect.all(phone), before);
        }
        phone.pass(1);
        EXPECT.same("one", phone.undo(), 0);
        EXPECT.same("none", phone.undo(), -1);
        EXPECT.same("all", Expect.all(phone), before);
    }

    /** "A snapshot and undo concern everything but the input buffer, the report, the snapshots ..": here undo */
    static void undoLeavesBufferReportAndSnapshots() {
        HallPhone phone = Expect.house("house 0 0;");
        phone.pass(1);
        phone.append(0, 0, 0, 0, 0);
        phone.writeHouse();
        phone.saveSnapshot(1);
        EXPECT.same("undo", phone.undo(), 0);
        EXPECT.same("TIME", phone.size(1), 0);
        EXPECT.same("buffer and report", phone.size(12) * 10 + phone.size(13), 205);
        EXPECT.same("snapshot", phone.restoreSnapshot(1), 1);
    }

    /** The same sentence: here a snapshot */
    static void restoreLeavesBufferReportAndSnapshots() {
        HallPhone phone = Expect.house("house 0 0;");
        phone.saveSnapshot(0);
        phone.pass(1);
        phone.saveSnapshot(1);
        phone.append(0, 0, 0, 0, 0);
        phone.writeHouse();
        EXPECT.same("restore 0", phone.restoreSnapshot(0), 0);
        EXPECT.same("buffer and report", phone.size(12) * 10 + phone.size(13), 205);
        EXPECT.same("restore 1", phone.restoreSnapshot(1), 1);
        EXPECT.same("restore 0", phone.restoreSnapshot(0), 0);
    }

    private static String everything(HallPhone phone) {
        StringBuilder all = new StringBuilder();
        for (int what = 0; what <= 10; what++) {
            all.append(phone.size(what)).append(' ').append(phone.account(what)).append(' ');
        }
        all.append(phone.meanCall()).append(' ').append(phone.busyShare()).append(' ').append(phone.freeIn());
        return all.append(' ').append(phone.queued(0)).append(' ').append(phone.checksum()).toString();
    }

    /** The same sentence: "everything", for a HELD call its minutes too, and the mean of the calls */
    static void undoAndSnapshotsConcernEverything() {
        HallPhone phone = Expect.house("house 1 curious 1 curious 0 4 curious;limit 9;want 2 8;pass 12;ring 3 1;"
                + "ring 1 50;want 2 7;pass 1;");
        String before = everything(phone);
        phone.saveSnapshot(0);
        phone.pass(300);
        phone.undo();
        EXPECT.same("undo", everything(phone), before);
        phone.pass(1);
        phone.hang(1);
        phone.ring(2, 3);
        phone.pass(100);
        for (int which = 0; which < 6; which++) {
            phone.set(which, 2);
        }
        phone.setCurious(0, false);
        phone.pay(2, 1);
        phone.restoreSnapshot(0);
        EXPECT.same("snapshot", everything(phone), before);
    }

    /** The same sentence: messages that were wiped off are back, with their minutes, in undo and in a snapshot. */
    static void undoAndSnapshotsBringTheSlateBack() {
        HallPhone phone = Expect.house("house 4 4;pass 3;ring 0 1;pass 2;ring 1 1;want 0 1;pass 4;");
        phone.saveSnapshot(0);
        EXPECT.same("ahead of it", Expect.slateOf(phone), "0@3 1@5");
        phone.pass(3);
        phone.ring(0, 1);
        EXPECT.same("wiped off", Expect.slateOf(phone), "1@5 0@12");
        phone.undo();
        EXPECT.same("one undone", Expect.slateOf(phone), "1@5");
        phone.undo();
        EXPECT.same("two undone", Expect.slateOf(phone), "0@3 1@5");
        phone.pass(3);
        phone.ring(0, 1);
        phone.restoreSnapshot(0);
        EXPECT.same("restored", Expect.slateOf(phone), "0@3 1@5");
    }

    // ---- snapshots

    /** Promise 39: "slot: 0 or 1", "Throws IllegalArgumentException if slot is out of range" */
    static void saveInAWrongSlotThrows() {
        HallPhone phone = new HallPhone();
        for (int slot : new int[] {-1, 2, 32, 33, Integer.MIN_VALUE, Integer.MAX_VALUE}) {
            EXPECT.thrownAndSame("save " + slot, phone, ARGUMENT, () -> phone.saveSnapshot(slot));
        }
        EXPECT.same("0 and 1", "" + phone.saveSnapshot(0) + phone.saveSnapshot(1), "falsefalse");
    }

    /** Promise 39: "in place of an earlier one", "Returns whether there was an earlier one": in this slot */
    static void saveTellsWhetherThereWasOne() {
        HallPhone phone = Expect.house("house 0;");
        EXPECT.same("first", phone.saveSnapshot(1), false);
        EXPECT.same("the other slot", phone.saveSnapshot(0), false);
        phone.pass(5);
        EXPECT.same("second", phone.saveSnapshot(1), true);
        EXPECT.same("in place of it", phone.restoreSnapshot(1), 5);
        EXPECT.same("the other slot", phone.restoreSnapshot(0), 0);
        EXPECT.same("restored, stored still", phone.saveSnapshot(0), true);
    }

    /** Promise 40: "Throws IllegalArgumentException if slot is out of range" */
    static void restoreOfAWrongSlotThrows() {
        HallPhone phone = new HallPhone();
        phone.pass(1);
        for (int round = 0; round < 2; round++) {
            for (int slot : new int[] {-1, 2, 32, Integer.MIN_VALUE, Integer.MAX_VALUE}) {
                EXPECT.thrownAndSame("restore " + slot, phone, ARGUMENT, () -> phone.restoreSnapshot(slot));
            }
            phone.saveSnapshot(0);
            phone.saveSnapshot(1);
        }
    }

    /** Promise 40: "Throws NoSuchElementException if the slot is empty": the other one may hold one */
    static void restoreOfAnEmptySlotThrows() {
        HallPhone phone = new HallPhone();
        phone.pass(1);
        Class<NoSuchElementException> due = NoSuchElementException.class;
        EXPECT.thrownAndSame("restore 0", phone, due, () -> phone.restoreSnapshot(0));
        EXPECT.thrownAndSame("restore 1", phone, due, () -> phone.restoreSnapshot(1));
        phone.saveSnapshot(0);
        EXPECT.thrownAndSame("restore 1", phone, due, () -> phone.restoreSnapshot(1));
        EXPECT.same("the change stays", phone.undo(), 0);
        HallPhone other = new HallPhone();
        other.saveSnapshot(1);
        EXPECT.thrownAndSame("restore 0", other, due, () -> other.restoreSnapshot(0));
    }

    /** Promise 40: "which stays stored": as it was saved, whatever happens behind it */
    static void aSnapshotStaysStored() {
        HallPhone phone = Expect.house("house 0 0 4;ring 2 1;want 0 9;pass 3;");
        phone.saveSnapshot(0);
        String before = everything(phone);
        for (int i = 0; i < 3; i++) {
            phone.want(1, 5);
            phone.pass(20);
            phone.ring(2, 1);
            EXPECT.same("TIME", phone.restoreSnapshot(0), 3);
            EXPECT.same("everything", everything(phone), before);
        }
    }

    /** Promise 40: "Nothing can be undone then." */
    static void restoreEndsUndo() {
        HallPhone phone = Expect.house("house 0;");
        phone.saveSnapshot(0);
        for (int i = 0; i < 9; i++) {
            phone.pass(1);
        }
        phone.restoreSnapshot(0);
        EXPECT.same("changes", phone.size(11), 0);
        EXPECT.same("undo", phone.undo(), -1);
        EXPECT.same("TIME", phone.size(1), 0);
        phone.pass(4);
        EXPECT.same("a new change", phone.undo() * 10 + phone.size(1), 0);
    }

    // ---- exceptions

    /** "if several exceptions apply, the one that is listed first is thrown" */
    static void theExceptionThatIsListedFirst() {
        HallPhone phone = Expect.house("house 0;");
        EXPECT.index("flat", () -> phone.flat(1, 11));
        EXPECT.noElement("message", () -> phone.message(0, 2));
        EXPECT.index("why", () -> phone.why(1, 2));
        EXPECT.index("flatIn", () -> phone.flatIn(1, 501));
        EXPECT.index("debtIn", () -> phone.debtIn(1, 501));
        EXPECT.index("learnsIn", () -> phone.learnsIn(1, 501));
        EXPECT.index("want", () -> phone.want(1, 0));
        EXPECT.index("ring", () -> phone.ring(1, 0));
        EXPECT.index("pay", () -> phone.pay(1, 0));
        EXPECT.argument("restoreSnapshot", () -> phone.restoreSnapshot(2));
    }

    /** "exceptions are looked at ahead of refusals" */
    static void exceptionsComeAheadOfRefusals() {
        HallPhone phone = Expect.house("house 0;want 0 9;pass 1;");
        EXPECT.argument("want", () -> phone.want(0, 0));
        EXPECT.argument("ring", () -> phone.ring(0, 100));
        EXPECT.argument("pay", () -> phone.pay(0, 0));
    }

    // ---- checksum

    private static void add(java.util.List<Integer> row, int... numbers) {
        for (int number : numbers) {
            row.add(number);
        }
    }

    /** The numbers of promise 41, in their order. */
    private static java.util.List<Integer> numbers(HallPhone phone) {
        java.util.List<Integer> row = new java.util.ArrayList<>();
        for (int what = 0; what <= 10; what++) {
            add(row, phone.size(what));
        }
        for (int which = 0; which <= 5; which++) {
            add(row, phone.setting(which));
        }
        for (int flat = 0; flat < phone.size(0); flat++) {
            for (int what = 0; what <= 10; what++) {
                add(row, phone.flat(flat, what));
            }
            for (int other = 0; other < phone.size(0); other++) {
                add(row, phone.heard(flat, other));
            }
        }
        for (int message = 0; message < phone.size(9); message++) {
            add(row, phone.message(message, 0), phone.message(message, 1));
        }
        for (int what = 0; what <= 9; what++) {
            add(row, phone.account(what));
        }
        return row;
    }

    /** Reckons without a bound, and cuts 64 bits off at the end. */
    private static long wrapped(java.util.List<Integer> numbers) {
        BigInteger sum = BigInteger.ZERO;
        for (int number : numbers) {
            sum = sum.multiply(BigInteger.valueOf(31)).add(BigInteger.valueOf(number));
        }
        return sum.longValue();
    }

    /** Promise 41: "as a long that wraps": of the smallest and of the fullest house */
    static void theChecksumWraps() {
        HallPhone small = Expect.house("house 0;");
        EXPECT.same("one flat", small.checksum(), wrapped(numbers(small)));
        HallPhone phone = Expect.house("house 9 curious" + " 0 curious".repeat(9) + ";patience 0;" + "ring 0 1;".repeat(8)
                + "want 0 99;want 1 99;want 2 9;want 3 9;pass 60;");
        EXPECT.same("ten flats", phone.checksum(), wrapped(numbers(phone)));
        EXPECT.same("numbers", numbers(phone).size(), 11 + 6 + 10 * 21 + 10);
        phone.undo();
        for (int i = 0; i < 9; i++) {
            phone.pass(999);
            phone.ring(0, 1);
        }
        EXPECT.same("a full slate", phone.size(9), 8);
        EXPECT.same("with messages", phone.checksum(), wrapped(numbers(phone)));
        HallPhone two = Expect.house("house 9 8;pass 7;ring 1 1;pass 7;ring 0 1;");
        EXPECT.same("with two messages", two.checksum(), wrapped(numbers(two)));
    }

    /** Promise 41: "each number n": NONE counts as -1 */
    static void noneCountsInTheChecksum() {
        HallPhone phone = Expect.house("house 0;");
        int[] due = {1, 0, 0, -1, 0, 0, 0, 0, 0, 0, 0, 0, 3, 4, 1, 5, 3, 0, 0, 0, 0, 0, -1, 0, 0, 0, 0, 0, 0,
            0, 0, 0, 0, 0, 0, 0, 0, 0, 0};
        java.util.List<Integer> row = new java.util.ArrayList<>();
        add(row, due);
        EXPECT.same("a house at first", phone.checksum(), wrapped(row));
        EXPECT.same("twice", phone.checksum(), wrapped(row));
    }
}
