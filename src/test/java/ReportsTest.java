/** Promises 27 to 29. */
public final class ReportsTest {
    private static final Expect EXPECT = new Expect();

    public static void main(String[] args) {
        promise27();
        promise28();
        promise29();
        EXPECT.end("ReportsTest");
    }

    private static void promise27() {
        HallPhone phone = Expect.house("house 0 9 0 0 1 0 0 0 0 0;want 0 99;pass 1;want 3 5;want 2 5;pass 1;want 1 3;");
        EXPECT.same("all kinds", Expect.houseOf(phone), "0!98 1<10 2#0 3#1 4. 5. 6. 7. 8. 9.");
        EXPECT.same("length", phone.writeHouse(), 35);
        phone.pass(1);
        EXPECT.same("report stays", Expect.report(phone).length(), 35);
        EXPECT.same("a minute later", Expect.houseOf(phone), "0!97 1<9 2#0 3#1 4. 5. 6. 7. 8. 9.");
        phone.hang(0);
        EXPECT.same("FREE", Expect.houseOf(phone), "0. 1<9 2#0 3#1 4. 5. 6. 7. 8. 9.");
        phone.ring(4, 7);
        EXPECT.same("HELD", Expect.houseOf(phone), "0. 1<9 2#0 3#1 4<2 5. 6. 7. 8. 9.");
        EXPECT.same("one flat", Expect.houseOf(Expect.house("house 3;")), "0.");
        EXPECT.same("no change", phone.size(11), 3);
    }

    private static void promise28() {
        HallPhone phone = Expect.house("house 9 4 8;");
        EXPECT.same("no messages", Expect.slateOf(phone), "-");
        EXPECT.same("length", phone.writeSlate(), 1);
        phone.ring(2, 5);
        EXPECT.same("one message", Expect.slateOf(phone), "2@0");
        phone.pass(999);
        phone.ring(0, 5);
        phone.pass(999);
        phone.ring(2, 5);
        phone.ring(1, 5);
        EXPECT.same("four messages", Expect.slateOf(phone), "2@0 0@999 2@1998 1@1998");
        EXPECT.same("length", phone.writeSlate(), 23);
        phone.want(2, 1);
        phone.pass(9);
        EXPECT.same("two were read", Expect.slateOf(phone), "0@999 1@1998");
        for (int i = 0; i < 7; i++) {
            phone.hang(2);
            phone.ring(0, 5);
        }
        EXPECT.same("eight", Expect.slateOf(phone), "0@999 1@1998 0@2007 0@2007 0@2007 0@2007 0@2007 0@2007");
        EXPECT.same("in place of the previous one", Expect.houseOf(phone), "0. 1. 2.");
    }

    private static void promise29() {
        HallPhone phone = Expect.house("house 0 1;");
        int[] none = {-1, 5, Integer.MIN_VALUE, Integer.MAX_VALUE};
        EXPECT.same("empty", phone.reportAt(0), (char) 0);
        phone.writeHouse();
        EXPECT.same("first", phone.reportAt(0), '0');
        EXPECT.same("a full stop", phone.reportAt(1), (char) 46);
        EXPECT.same("a space", phone.reportAt(2), (char) 32);
        EXPECT.same("last", phone.reportAt(4), '.');
        for (int index : none) {
            EXPECT.same("none at " + index, phone.reportAt(index), (char) 0);
        }
        phone.writeSlate();
        EXPECT.same("a hyphen", phone.reportAt(0), (char) 45);
        EXPECT.same("the previous one is gone", phone.reportAt(1), (char) 0);
        phone.undo();
        phone.load(1);
        phone.saveSnapshot(0);
        phone.restoreSnapshot(0);
        EXPECT.same("the report stays", Expect.report(phone), "-");
        phone.writeSlate();
        EXPECT.same("an at sign", phone.reportAt(1), (char) 64);
    }
}
