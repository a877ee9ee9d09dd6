/** Promises 15 to 26. */
public final class ReasonsTest {
    private static final Expect EXPECT = new Expect();
    /** Flats 0 to 6 are in the hall, 0 speaks; the calls of 0 to 4 last 495 minutes. */
    private static final String LONG = "house 0 0 0 0 0 0 0; want 0 99; want 1 99; want 2 99; want 3 99; want 4 99; ";

    private static String why(HallPhone phone, int flat) {
        return phone.why(flat, 0) + " " + phone.why(flat, 1);
    }

    public static void main(String[] args) {
        promise15();
        promises16To20();
        futureOfHeldAndLimit();
        promise21();
        promise22();
        promise23();
        promises24To26();
        wrongNumbers();
        EXPECT.end("ReasonsTest");
    }

    private static void promise15() {
        HallPhone phone = Expect.house("house 0 4 0 0;want 0 9;pass 4;want 2 5;want 3 6;pass 1;want 1 7;");
        EXPECT.same("speaks", why(phone, 0), "0 4");
        EXPECT.same("COMING", why(phone, 1), "2 5");
        EXPECT.same("QUEUED, BUSY", why(phone, 2), "3 0");
        EXPECT.same("QUEUED, BUSY", why(phone, 3), "3 0");
        phone.hang(0);
        EXPECT.same("QUEUED, FREE", why(phone, 2), "5 0");
        EXPECT.same("QUEUED, FREE", why(phone, 3), "5 1");
        EXPECT.same("HOME", why(phone, 0), "1 0");
        phone.drop(1);
        phone.ring(1, 5);
        EXPECT.same("HOME with a message", why(phone, 1), "1 1");
        phone.set(5, 4);
        phone.ring(1, 5);
        EXPECT.same("QUEUED, HELD", why(phone, 3), "4 1");
        EXPECT.same("COMING to a ring", why(phone, 1), "2 5");
    }

    private static void promises16To20() {
        HallPhone phone = Expect.house(LONG + "want 5 5; want 6 1; pass 1;");
        EXPECT.same("speaks now", phone.speaksIn(0), 0);
        EXPECT.same("speaks next", phone.speaksIn(1), 99);
        EXPECT.same("speaks in 500", phone.speaksIn(6), 500);
        EXPECT.same("free in 501", phone.freeIn(), -1);
        EXPECT.same("in 0", phone.flatIn(6, 0), 2);
        EXPECT.same("in 499", phone.flatIn(6, 499), 2);
        EXPECT.same("in 500", phone.flatIn(6, 500), 3);
        EXPECT.same("5 in 499", phone.flatIn(5, 499), 3);
        EXPECT.same("5 in 500", phone.flatIn(5, 500), 0);
        EXPECT.same("DEBT in 98", phone.debtIn(0, 98), 0);
        EXPECT.same("DEBT in 99", phone.debtIn(0, 99), 132);
        EXPECT.same("DEBT in 500", phone.debtIn(5, 500), 8);
        EXPECT.same("not HOME", phone.waitIf(0), -1);
        EXPECT.same("not HOME", phone.waitIf(6), -1);
        EXPECT.same("nothing passed", phone.size(1), 1);
        phone = Expect.house(LONG + "want 5 6; want 6 1; pass 1;");
        EXPECT.same("speaks in 501", phone.speaksIn(6), -1);
        phone = Expect.house(LONG + "want 5 5; pass 1;");
        EXPECT.same("free in 500", phone.freeIn(), 500);
        EXPECT.same("one at HOME", phone.speaksIn(6), -1);
        EXPECT.same("waits 500", phone.waitIf(6), 500);
        phone = Expect.house(LONG + "want 5 4;");
        EXPECT.same("waits 500", phone.waitIf(6), 500);
        EXPECT.same("free now", phone.freeIn(), 0);
        phone = Expect.house(LONG + "want 5 5;");
        EXPECT.same("waits 501", phone.waitIf(6), -1);
        phone = Expect.house("house 9 0;");
        EXPECT.same("waits for the stairs", phone.waitIf(0), 10);
        EXPECT.same("nobody comes", phone.speaksIn(0), -1);
        EXPECT.same("no wish is left", phone.size(8), 0);
    }

    private static void futureOfHeldAndLimit() {
        HallPhone phone = Expect.house("house 3 0 1;ring 0 10;want 1 5;");
        EXPECT.same("HELD", phone.freeIn(), 4 + 10 + 5);
        EXPECT.same("called", phone.speaksIn(0), 4);
        EXPECT.same("waits for the ring", phone.speaksIn(1), 14);
        EXPECT.same("states", "" + phone.flatIn(0, 3) + phone.flatIn(0, 4) + phone.flatIn(1, 3), "132");
        EXPECT.same("a ring is free", phone.debtIn(0, 14), 0);
        phone.set(0, 2);
        EXPECT.same("with a LIMIT", phone.speaksIn(1), 6);
        EXPECT.same("the last is not CUT", phone.freeIn(), 11);
        EXPECT.same("a wish cuts", phone.waitIf(2), 8);
    }

    private static void promise21() {
        HallPhone phone = Expect.house("house 0 0 5;");
        EXPECT.same("nobody", phone.bestLimit(), -1);
        phone.want(0, 90);
        EXPECT.same("one COMING", phone.bestLimit(), 1);
        phone.pass(1);
        EXPECT.same("one SPEAKING", phone.bestLimit(), -1);
        phone.want(1, 90);
        phone.pass(1);
        EXPECT.same("one QUEUED", phone.bestLimit(), 1);
        EXPECT.same("LIMIT stays", phone.setting(0), 0);
        phone.hang(0);
        phone.drop(1);
        EXPECT.same("nobody again", phone.bestLimit(), -1);
        phone.set(5, 9);
        phone.ring(2, 50);
        EXPECT.same("one COMING to a ring", phone.bestLimit(), 1);
    }

    private static void promise22() {
        HallPhone phone = Expect.house("house 0 curious 0 0 1 curious;secret 3;want 1 4;want 2 9;pass 1;");
        EXPECT.same("in 2", phone.learnsIn(0, 2), 0);
        EXPECT.same("in 3", phone.learnsIn(0, 3), 2);
        EXPECT.same("in 6", phone.learnsIn(0, 6), 2);
        EXPECT.same("in 7", phone.learnsIn(0, 7), 2 + 4);
        EXPECT.same("another one", phone.learnsIn(3, 500), 2 + 4);
        EXPECT.same("not CURIOUS", phone.learnsIn(2, 500), 0);
        EXPECT.same("now", phone.learnsIn(0, 0), 0);
        phone.pass(3);
        EXPECT.same("what it knows", phone.learnsIn(0, 4), 4);
        EXPECT.same("what it knows now", phone.learnsIn(0, 0), 0);
        phone.want(0, 9);
        EXPECT.same("the secret of 0", phone.learnsIn(3, 500), 1 + 4);
    }

    private static void promise23() {
        HallPhone phone = Expect.house("house 3 4 0 0;want 2 9;want 3 9;pass 2;");
        EXPECT.same("BUSY", "" + phone.ifRung(0) + phone.ifRung(2) + phone.ifRung(3), "555");
        phone.hang(2);
        EXPECT.same("FREE", "" + phone.ifRung(0) + phone.ifRung(1) + phone.ifRung(2) + phone.ifRung(3), "0201");
        phone.want(0, 5);
        EXPECT.same("COMING", phone.ifRung(0), 2);
        for (int i = 0; i < 8; i++) {
            EXPECT.same("not full", phone.ifRung(1), 2);
            EXPECT.same("ring", phone.ring(1, 1), 2);
        }
        EXPECT.same("full", "" + phone.ifRung(0) + phone.ifRung(1) + phone.ifRung(2) + phone.ifRung(3), "3301");
        long before = phone.checksum();
        phone.ifRung(3);
        EXPECT.same("no change", phone.checksum(), before);
        phone.ring(2, 5);
        EXPECT.same("HELD", phone.ifRung(1), 5);
    }

    private static String accounts(HallPhone phone) {
        StringBuilder row = new StringBuilder();
        for (int what = 0; what <= 10; what++) {
            row.append(what > 0 ? " " : "").append(phone.account(what));
        }
        return row.toString();
    }

    private static void promises24To26() {
        HallPhone phone = Expect.house("house 0 curious 0 9;");
        EXPECT.same("at first", accounts(phone), "0 0 0 0 0 0 0 0 0 0 0");
        EXPECT.same("no calls", phone.meanCall(), 0.0);
        EXPECT.same("no minutes", phone.busyShare(), 0.0f);
        phone.want(1, 7);
        phone.pass(5);
        EXPECT.same("a call goes on", accounts(phone), "5 0 0 4 0 0 0 0 0 4 0");
        EXPECT.same("no call ended", phone.meanCall(), 0.0);
        EXPECT.same("share", phone.busyShare(), 4.0f / 5.0f);
        phone.set(0, 6);
        phone.want(0, 2);
        phone.pass(2);
        EXPECT.same("a call was CUT", accounts(phone), "7 1 1 6 8 0 0 0 0 4 0");
        EXPECT.same("mean of one", phone.meanCall(), 6.0);
        phone.pay(1, 5);
        phone.pass(3);
        for (int i = 0; i < 10; i++) {
            phone.ring(2, 1);
        }
        EXPECT.same("messages and LOST", accounts(phone), "10 2 1 8 12 5 8 0 2 4 0");
        EXPECT.same("mean of two", phone.meanCall(), 4.0);
        phone.want(2, 1);
        phone.pass(10);
        EXPECT.same("read", accounts(phone), "20 2 1 8 12 5 8 8 2 4 0");
        phone.hang(2);
        EXPECT.same("a call of no minutes", accounts(phone), "20 3 1 8 12 5 8 8 2 4 0");
        EXPECT.same("mean of three", phone.meanCall(), 8.0 / 3.0);
        EXPECT.same("share", phone.busyShare(), 8.0f / 20.0f);
        phone.pass(1);
        EXPECT.same("share", phone.busyShare(), 8.0f / 21.0f);
        EXPECT.argument("account(-1)", () -> phone.account(-1));
        EXPECT.argument("account(11)", () -> phone.account(11));
    }

    private static void wrongNumbers() {
        HallPhone phone = new HallPhone();
        long before = phone.checksum();
        int[] noFlat = {-1, 5, Integer.MIN_VALUE, Integer.MAX_VALUE};
        for (int flat : noFlat) {
            EXPECT.index("why " + flat, () -> phone.why(flat, 0));
            EXPECT.index("why " + flat, () -> phone.why(flat, 2));
            EXPECT.index("speaksIn " + flat, () -> phone.speaksIn(flat));
            EXPECT.index("flatIn " + flat, () -> phone.flatIn(flat, -1));
            EXPECT.index("debtIn " + flat, () -> phone.debtIn(flat, 501));
            EXPECT.index("waitIf " + flat, () -> phone.waitIf(flat));
            EXPECT.index("learnsIn " + flat, () -> phone.learnsIn(flat, 501));
            EXPECT.index("ifRung " + flat, () -> phone.ifRung(flat));
        }
        int[] noMinutes = {-1, 501, Integer.MIN_VALUE, Integer.MAX_VALUE};
        for (int minutes : noMinutes) {
            EXPECT.argument("why depth " + minutes, () -> phone.why(0, minutes));
            EXPECT.argument("flatIn " + minutes, () -> phone.flatIn(0, minutes));
            EXPECT.argument("debtIn " + minutes, () -> phone.debtIn(0, minutes));
            EXPECT.argument("learnsIn " + minutes, () -> phone.learnsIn(0, minutes));
        }
        EXPECT.argument("why depth 2", () -> phone.why(0, 2));
        EXPECT.same("nothing changed", phone.checksum(), before);
    }
}
