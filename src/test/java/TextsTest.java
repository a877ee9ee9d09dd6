/** Promises 1 to 4, and section 4 of the terms. */
public final class TextsTest {
    private static final Expect EXPECT = new Expect();

    private static final String[] BUILT_IN = {
        "house 0 curious 1 3 2 curious 4; limit 6; ring 4 5; want 1 8; want 3 4; pass 3; want 0 10;",
        "house 1 curious 1 curious 5 0; unit 2; rate 10; secret 3; patience 2; want 2 9; ring 1 4; pass 8; "
            + "want 3 30; pass 2; limit 6; pass 3; hang 3; ring 2 3; ring 3 5; pass 1; pay 2 12;",
        "house 9; rate 0; ear 0; patience 0; want 0 99; pass 20;",
    };

    private static void error(String text, int offset, int code) {
        EXPECT.textError(text, offset, code);
    }

    private static void right(String text, int flats) {
        EXPECT.textRight(text, flats);
    }

    public static void main(String[] args) {
        promise1();
        promise2();
        promise3();
        promise4();
        tokens();
        flats();
        statements();
        EXPECT.end("TextsTest");
    }

    private static void promise1() {
        HallPhone phone = new HallPhone();
        EXPECT.same("text 0", Expect.houseOf(phone), "0<1 1!7 2. 3#0 4.");
        phone = new HallPhone();
        EXPECT.same("empty buffer", phone.size(12), 0);
        EXPECT.same("empty report", phone.size(13), 0);
        EXPECT.same("nothing in the report", phone.reportAt(0), (char) 0);
        EXPECT.same("no changes", phone.undo(), -1);
        HallPhone fresh = phone;
        EXPECT.noElement("no snapshot 0", () -> fresh.restoreSnapshot(0));
        EXPECT.noElement("no snapshot 1", () -> fresh.restoreSnapshot(1));
        EXPECT.same("checksum as of load(0)", phone.checksum(), Expect.house(BUILT_IN[0]).checksum());
    }

    private static void promise2() {
        HallPhone phone = new HallPhone();
        long before = phone.checksum();
        for (int length = 20; length <= 700; length += 20) {
            EXPECT.same("append", phone.append(0x20202020, 0x20202020, 0x20202020, 0x20202020, 0x20202020), length);
        }
        EXPECT.same("append above 700", phone.append(0, 0, 0, 0, 0), -1);
        EXPECT.same("length", phone.size(12), 700);
        EXPECT.same("house", phone.checksum(), before);
        EXPECT.same("no change", phone.size(11), 0);
        EXPECT.same("700 spaces", phone.parse(700), -2 - (8 * 700 + 1));
        EXPECT.same("append again", phone.append(0, 0, 0, 0, 0), 20);
        // The most significant byte first, and all five in their order.
        phone = new HallPhone();
        phone.append(0x686f7573, 0x65203920, 0x63757269, 0x6f757320, 0x33203b20);
        EXPECT.same("order of bytes", phone.parse(20), 2);
        EXPECT.same("order of bytes", phone.flat(0, 0) * 100 + phone.flat(0, 1) * 10 + phone.flat(1, 0), 913);
        // A byte above 127 is no other one.
        phone = new HallPhone();
        phone.append(0xe86f7573, 0x65203120, 0x3b202020, 0, 0);
        EXPECT.same("byte 232", phone.parse(9), -2 - 1);
    }

    private static void promise3() {
        HallPhone phone = new HallPhone();
        phone.load(1);
        Expect.type(phone, "house 1;");
        EXPECT.argument("parse(21)", () -> phone.parse(21));
        EXPECT.argument("parse(-1)", () -> phone.parse(-1));
        EXPECT.argument("parse(least)", () -> phone.parse(Integer.MIN_VALUE));
        EXPECT.argument("parse(greatest)", () -> phone.parse(Integer.MAX_VALUE));
        EXPECT.same("the buffer stays", phone.size(12), 20);
        phone.load(0);
        phone.saveSnapshot(0);
        phone.saveSnapshot(1);
        phone.pass(1);
        phone.writeSlate();
        EXPECT.same("parse(8)", phone.parse(8), 1);
        EXPECT.same("buffer", phone.size(12), 0);
        EXPECT.same("report stays", Expect.report(phone), "4@0");
        EXPECT.same("undo", phone.undo(), -1);
        EXPECT.noElement("snapshot 0", () -> phone.restoreSnapshot(0));
        EXPECT.noElement("snapshot 1", () -> phone.restoreSnapshot(1));
        EXPECT.same("time", phone.size(1), 0);
        for (int what = 0; what <= 10; what++) {
            EXPECT.same("account " + what, phone.account(what), 0);
        }
        for (int which = 0; which < 6; which++) {
            EXPECT.same("setting " + which, phone.setting(which), new int[] {0, 3, 4, 1, 5, 3}[which]);
        }
        EXPECT.same("mean", phone.meanCall(), 0.0);
        EXPECT.same("share", phone.busyShare(), 0.0f);
        EXPECT.same("parse(0)", phone.parse(0), -2 - 1);
        EXPECT.same("one flat", phone.size(0), 1);
        // Only the first bytes are the text; all are gone behind it.
        Expect.type(phone, "house 2 3;house 4;");
        EXPECT.same("parse(10)", phone.parse(10), 2);
        EXPECT.same("buffer", phone.size(12), 0);
        Expect.type(phone, "house 2 3;house 4;");
        EXPECT.same("parse(20)", phone.parse(20), -2 - (8 * 10 + 1));
    }

    private static void promise4() {
        HallPhone phone = new HallPhone();
        EXPECT.argument("load(-1)", () -> phone.load(-1));
        EXPECT.argument("load(3)", () -> phone.load(3));
        Expect.type(phone, "house 1;");
        int[] flats = {5, 4, 1};
        int[] times = {3, 14, 20};
        for (int text = 0; text < 3; text++) {
            phone.pass(1);
            phone.saveSnapshot(0);
            phone.writeSlate();
            String report = Expect.report(phone);
            EXPECT.same("load " + text, phone.load(text), flats[text]);
            EXPECT.same("time of " + text, phone.size(1), times[text]);
            EXPECT.same("as typed " + text, phone.checksum(), Expect.house(BUILT_IN[text]).checksum());
            EXPECT.same("buffer", phone.size(12), 20);
            EXPECT.same("report", Expect.report(phone), report);
            EXPECT.same("changes", phone.size(11), 0);
            EXPECT.noElement("snapshot", () -> phone.restoreSnapshot(0));
        }
        EXPECT.same("the buffer can be parsed still", phone.parse(8), 1);
    }

    private static void tokens() {
        right("house1curious2;limit6;want1 99;", 2);
        right("\n house\n0001 \n;\n", 1);
        right("house 9 9 9 9 9 9 9 9 9 9 curious;", 10);
        right("house 0;limit 0060;", 1);
        error("", 0, 1);
        error("   ", 3, 1);
        error("house", 5, 1);
        error("house  ", 7, 1);
        error("house 1", 7, 1);
        error("house 1 curious ", 16, 1);
        error("House 1;", 0, 1);
        error("hous 1;", 0, 1);
        error("houses 1;", 0, 1);
        error("housez 1;", 0, 1);
        error("mouse 1;", 0, 1);
        error("house\t1;", 5, 1);
        error("house 1,", 7, 1);
        error("house 00001;", 6, 1);
        error("house 12345678901234567890;", 6, 1);
        error("house 1; limit 00006;", 15, 1);
        error("house 1; limit 6", 16, 1);
        error("house 1; limit", 14, 1);
        error("house 1; limit 6;\0", 17, 1);
        error("house 1; limit 6;\u00e9", 17, 1);
        error("house 1; limit -6;", 15, 1);
        error("house 1; want 0", 15, 1);
        error("house 1; want", 13, 1);
        // Of two errors the one ahead counts.
        error("house 1; limit 61; want 7 7; #", 15, 2);
        error("house 1; limit 61#", 15, 2);
    }

    private static void flats() {
        error("house;", 5, 1);
        error("house curious;", 6, 1);
        error("house 1 curious curious;", 16, 1);
        error("house 1 want;", 8, 1);
        error("house 10;", 6, 2);
        error("house 1 9999;", 8, 2);
        error("house 0 0 0 0 0 0 0 0 0 0 9;", 26, 3);
        error("house 0 0 0 0 0 0 0 0 0 0 10;", 26, 2);
        error("house 0 0 0 0 0 0 0 0 0 0 00000;", 26, 1);
        error("house 0 0 0 0 0 0 0 0 0 0 x;", 26, 1);
        HallPhone phone = Expect.house("house 4 curious 0 9 curious;");
        EXPECT.same("floors", phone.flat(0, 0) * 100 + phone.flat(1, 0) * 10 + phone.flat(2, 0), 409);
        EXPECT.same("curious", phone.flat(0, 1) * 100 + phone.flat(1, 1) * 10 + phone.flat(2, 1), 101);
    }

    private static void statements() {
        error("house 1;;", 8, 1);
        error("house 1; 5;", 9, 1);
        error("house 1; house 1;", 9, 1);
        error("house 1; want curious 5;", 14, 1);
        error("house 1; want 0;", 15, 1);
        error("house 1; want 1 5;", 14, 2);
        error("house 1; want 1;", 14, 2);
        error("house 1; want 0 5 5;", 18, 1);
        error("house 1; drop 0 1;", 16, 1);
        error("house 1; pass 0;", 14, 2);
        error("house 1; pass 1000;", 14, 2);
        error("house 1; drop 0;", 15, 4);
        error("house 1; hang 0;", 15, 4);
        error("house 1; pay 0 1;", 16, 4);
        error("house 1; pay 0 0;", 15, 2);
        error("house 1; ring 0 0;", 16, 2);
        error("house 1; ring 0 100;", 16, 2);
        error("house 1; ring 0 5; ring 0 5 ;", 28, 4);
        error("house 1; want 0 5; want 0 5;", 27, 4);
        error("house 1; ring 0 5; drop 0;", 25, 4);
        error("house 1; want 0 0;", 16, 2);
        error("house 1; want 0 100;", 16, 2);
        String[] words = {"limit", "unit", "rate", "ear", "secret", "patience"};
        int[] least = {0, 1, 0, 0, 1, 0};
        int[] greatest = {60, 30, 99, 9, 99, 20};
        for (int which = 0; which < 6; which++) {
            String start = "house 1; " + words[which] + " ";
            error(start + (greatest[which] + 1) + ";", start.length(), 2);
            if (least[which] > 0) {
                error(start + "0;", start.length(), 2);
            }
            EXPECT.same(words[which], Expect.house(start + least[which] + ";").setting(which), least[which]);
            EXPECT.same(words[which], Expect.house(start + greatest[which] + ";").setting(which), greatest[which]);
        }
        HallPhone phone = Expect.house("house 0 0; want 0 7; want 1 4; pass 9; hang 1; pass 999; ring 0 3; pass 1; "
                + "pay 0 5;");
        EXPECT.same("deeds of a text", Expect.houseOf(phone) + " " + phone.size(1) + " " + phone.flat(0, 6) + " "
                + phone.flat(1, 6), "0!3 1. 1009 7 4");
        EXPECT.same("a text makes no changes", phone.size(11), 0);
        EXPECT.same("drop in a text", Expect.houseOf(Expect.house("house 3; want 0 5; pass 1; drop 0;")), "0.");
    }
}
