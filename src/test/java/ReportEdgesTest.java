/** The edges that promises 27 to 29, the reports, name: a case for each sentence. */
public final class ReportEdgesTest {
    private static final Expect EXPECT = new Expect();

    public static void main(String[] args) {
        EXPECT.runCases(ReportEdgesTest.class);
    }

    /** Promise 27: "for each flat, in ascending order, with a space between two": one flat has no space */
    static void theHouseOfOneFlat() {
        HallPhone phone = Expect.house("house 9;");
        EXPECT.same("length", phone.writeHouse(), 2);
        EXPECT.same("report", Expect.report(phone), "0.");
    }

    /** The same sentence: the longest report that ten flats can have */
    static void theHouseOfTenFlats() {
        HallPhone phone = Expect.house("house 9 9 9 9 9 9 9 9 9 0;want 9 99;pass 1;");
        for (int flat = 0; flat < 9; flat++) {
            phone.want(flat, 99);
        }
        EXPECT.same("length", phone.writeHouse(), 9 * 5 + 4);
        EXPECT.same("report", Expect.report(phone), "0<10 1<10 2<10 3<10 4<10 5<10 6<10 7<10 8<10 9!99");
        phone.pass(10);
        EXPECT.same("in the queue", Expect.houseOf(phone), "0#0 1#1 2#2 3#3 4#4 5#5 6#6 7#7 8#8 9!89");
    }

    /** "its number, then a full stop (byte 46) .., a less-than sign (byte 60) .., a number sign (byte 35) .., an exclamation mark (byte 33)" */
    static void theSignsOfTheHouse() {
        HallPhone phone = Expect.house("house 0 0 0 0;want 0 9;want 1 9;pass 1;want 2 9;");
        phone.writeHouse();
        EXPECT.same("SPEAKING", phone.reportAt(1), (char) 33);
        EXPECT.same("a space", phone.reportAt(3), (char) 32);
        EXPECT.same("QUEUED", phone.reportAt(5), (char) 35);
        EXPECT.same("COMING", phone.reportAt(9), (char) 60);
        EXPECT.same("HOME", phone.reportAt(13), (char) 46);
        EXPECT.same("behind the end", phone.reportAt(14), (char) 0);
    }

    /** "an exclamation mark .. and LEFT": not SPOKEN */
    static void theHouseTellsWhatIsLeft() {
        HallPhone phone = Expect.house("house 0;want 0 10;pass 10;");
        EXPECT.same("one minute is left", Expect.houseOf(phone), "0!1");
    }

    /** "a less-than sign .. and STEPS": also of one that comes to a call from outside */
    static void theHouseTellsStepsOfOneThatIsCalled() {
        HallPhone phone = Expect.house("house 3;ring 0 7;");
        EXPECT.same("HELD", Expect.houseOf(phone), "0<4");
    }

    /** Promise 28: "a hyphen (byte 45) alone without messages": at first and when all were read */
    static void theEmptySlate() {
        HallPhone phone = Expect.house("house 4;");
        EXPECT.same("length", phone.writeSlate(), 1);
        EXPECT.same("hyphen", "" + phone.reportAt(0) + (int) phone.reportAt(0) + (int) phone.reportAt(1), "-450");
        phone.ring(0, 1);
        EXPECT.same("one message", Expect.slateOf(phone), "0@0");
        phone.want(0, 1);
        phone.pass(5);
        EXPECT.same("read", Expect.slateOf(phone), "-");
    }

    /** "for each message the flat, an at sign (byte 64) and the minute, with a space between two": eight of them */
    static void theFullSlate() {
        HallPhone phone = Expect.house("house 9 8;");
        StringBuilder due = new StringBuilder();
        for (int i = 0; i < 8; i++) {
            phone.ring(i % 2, 1);
            due.append(i > 0 ? " " : "").append(i % 2).append('@').append(i * 999);
            phone.pass(999);
        }
        EXPECT.same("length", phone.writeSlate(), due.length());
        EXPECT.same("report", Expect.report(phone), due.toString());
        EXPECT.same("at sign", (int) phone.reportAt(1), 64);
    }

    /** "Writes the house as a report in place of the previous one": a shorter one leaves nothing of it */
    static void aReportReplacesThePreviousOne() {
        HallPhone phone = Expect.house("house 4 0 0;want 0 9;");
        EXPECT.same("house", phone.writeHouse(), 9);
        EXPECT.same("slate", phone.writeSlate(), 1);
        EXPECT.same("nothing behind it", phone.reportAt(1) + phone.reportAt(8), 0);
        EXPECT.same("house again", phone.writeHouse() * 10 + phone.size(13), 99);
        EXPECT.same("twice", phone.writeHouse(), 9);
    }

    /** Promise 29: "the character 0 if there is none at this index" */
    static void noCharacterIsZero() {
        HallPhone phone = Expect.house("house 4 0;");
        for (int index : new int[] {-1, 0, 1, 700, Integer.MIN_VALUE, Integer.MAX_VALUE}) {
            EXPECT.same("empty, at " + index, phone.reportAt(index), (char) 0);
        }
        phone.writeHouse();
        EXPECT.same("first and last", "" + phone.reportAt(0) + phone.reportAt(4), "0.");
        for (int index : new int[] {-1, 5, 6, 700, Integer.MIN_VALUE, Integer.MAX_VALUE}) {
            EXPECT.same("at " + index, phone.reportAt(index), (char) 0);
        }
    }

    /** Section 5 for reports: they are no changes, and change nothing */
    static void reportsAreNoChanges() {
        HallPhone phone = new HallPhone();
        long before = phone.checksum();
        phone.writeHouse();
        phone.writeSlate();
        phone.reportAt(0);
        EXPECT.same("house", phone.checksum(), before);
        EXPECT.same("changes", phone.size(11), 0);
    }
}
