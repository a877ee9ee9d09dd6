/** Promises 30 to 37, and sections 2 and 3 of the terms. */
public final class ChangesTest {
    private static final Expect EXPECT = new Expect();

    public static void main(String[] args) {
        stepA();
        stepB();
        stepC();
        stepD();
        promise30();
        promise31();
        promise32();
        promise33();
        promise34();
        promise35();
        promise36();
        promise37();
        wrongNumbers();
        EXPECT.end("ChangesTest");
    }

    private static void stepA() {
        HallPhone phone = Expect.house("house 1 curious 2 curious 1 1 curious 0;want 4 9;want 3 9;pass 1;");
        EXPECT.same("none heard yet", phone.account(9), 0);
        phone.pass(1);
        EXPECT.same("heard", "" + phone.heard(0, 4) + phone.heard(1, 4) + phone.heard(2, 4) + phone.heard(3, 4),
                "1000");
        EXPECT.same("heard by all", phone.account(9), 1);
        EXPECT.same("spoken", phone.size(4) * 10 + phone.size(5), 18);
        phone.hang(4);
        phone.pass(1);
        EXPECT.same("the next one speaks", Expect.houseOf(phone), "0. 1. 2. 3!9 4.");
        phone.want(0, 3);
        phone.pass(1);
        EXPECT.same("on the stairs nothing is heard", phone.heard(0, 3), 0);
        phone.drop(0);
        phone.pass(1);
        EXPECT.same("at home it is", phone.heard(0, 3), 1);
        phone.set(3, 0);
        phone.pass(1);
        EXPECT.same("EAR 0", phone.heard(0, 3), 1);
    }

    private static void stepB() {
        HallPhone phone = Expect.house("house 1 1 1 0;want 3 50;pass 1;want 2 5;want 0 6;want 1 7;pass 1;");
        EXPECT.same("on the stairs", Expect.houseOf(phone), "0<1 1<1 2<1 3!49");
        phone.pass(1);
        EXPECT.same("in ascending order", Expect.houseOf(phone), "0#0 1#1 2#2 3!48");
        phone = Expect.house("house 9 0 9;ring 2 5;ring 0 5;ring 2 5;want 2 5;pass 9;");
        EXPECT.same("not read yet", phone.account(7), 0);
        phone.ring(0, 5);
        phone.ring(2, 5);
        EXPECT.same("on the slate", Expect.slateOf(phone), "2@0 0@0 2@0 0@9 2@9");
        phone.pass(1);
        EXPECT.same("read", Expect.slateOf(phone), "0@0 0@9");
        EXPECT.same("three were read", phone.account(7), 3);
        // One that comes to a call from outside reads its messages too, and speaks ahead of the queue.
        phone = Expect.house("house 2 0;patience 1;ring 0 5;patience 2;ring 0 7;want 1 5;pass 2;");
        EXPECT.same("HELD", Expect.houseOf(phone) + " " + phone.size(9), "0<1 1#0 1");
        phone.pass(1);
        EXPECT.same("speaks", Expect.houseOf(phone) + " " + phone.size(9), "0!7 1#0 0");
    }

    private static void stepC() {
        HallPhone phone = Expect.house("house 0 0;limit 3;want 0 5;pass 4;");
        EXPECT.same("nobody is QUEUED", Expect.houseOf(phone), "0!2 1.");
        phone.want(1, 2);
        EXPECT.same("CUT in the minute of the arrival", phone.pass(1), 1);
        EXPECT.same("CUT", Expect.houseOf(phone) + " " + phone.account(2), "0. 1!2 1");
        EXPECT.same("cost of 4 minutes", phone.flat(0, 6), 8);
        EXPECT.same("ended", phone.flat(0, 8), 1);
        // A call whose LEFT is 0 is not CUT, though LIMIT is reached and somebody is QUEUED.
        phone = Expect.house("house 0 0;limit 3;want 0 3;want 1 2;pass 4;");
        EXPECT.same("not CUT", Expect.houseOf(phone) + " " + phone.account(2), "0. 1!2 0");
        EXPECT.same("cost of 3 minutes", phone.flat(0, 6), 4);
        // A call from outside is CUT too, and costs nothing.
        phone = Expect.house("house 0 0;limit 3;ring 0 9;want 1 2;pass 4;");
        EXPECT.same("CUT from outside", Expect.houseOf(phone) + " " + phone.account(2) + " " + phone.flat(0, 6)
                + " " + phone.account(4) + " " + phone.flat(0, 8), "0. 1!2 1 0 0 1");
        EXPECT.same("the next one is not from outside", phone.size(6), 0);
        // LIMIT 0 is none.
        phone = Expect.house("house 0 0;want 0 9;want 1 2;pass 9;");
        EXPECT.same("no LIMIT", Expect.houseOf(phone), "0!1 1#0");
        phone.set(0, 60);
        phone.pass(1);
        EXPECT.same("the end by itself", Expect.houseOf(phone) + " " + phone.account(2), "0. 1!2 0");
    }

    private static void stepD() {
        HallPhone phone = Expect.house("house 0 0 3;want 0 9;want 1 4;pass 2;hang 0;ring 2 6;pass 3;");
        EXPECT.same("HELD keeps the queue", Expect.houseOf(phone), "0. 1#0 2<1");
        EXPECT.same("waited", phone.flat(1, 10), 5);
        phone.pass(1);
        EXPECT.same("the ring speaks", Expect.houseOf(phone), "0. 1#0 2!6");
        phone.pass(6);
        EXPECT.same("then the queue", Expect.houseOf(phone), "0. 1!4 2.");
        EXPECT.same("waited behind (d)", phone.flat(1, 10), 11);
        EXPECT.same("the WISH is gone", phone.flat(1, 4), 0);
    }

    private static void promise30() {
        HallPhone phone = Expect.house("house 0 9;");
        EXPECT.same("STEPS", phone.want(0, 99) * 100 + phone.want(1, 1), 110);
        EXPECT.same("WISH", phone.flat(0, 4) * 10 + phone.flat(1, 4), 991);
        EXPECT.same("STEPS stay", phone.flat(1, 3), 10);
        EXPECT.same("COMING", phone.want(1, 5), -2);
        phone.pass(1);
        EXPECT.same("SPEAKING", phone.want(0, 5), -2);
        phone.pass(9);
        EXPECT.same("QUEUED", phone.want(1, 5), -2);
        EXPECT.same("the WISH is the first one", phone.flat(1, 4), 1);
        EXPECT.same("refused is no change", phone.size(11), 4);
        EXPECT.argument("minutes ahead of the refusal", () -> phone.want(1, 0));
    }

    private static void promise31() {
        HallPhone phone = Expect.house("house 0 3 0;want 0 50;pass 1;want 1 7;want 2 8;pass 1;");
        EXPECT.same("HOME", Expect.house("house 0;").drop(0), -3);
        EXPECT.same("SPEAKING", phone.drop(0), -3);
        EXPECT.same("COMING", phone.drop(1), 7);
        EXPECT.same("QUEUED", phone.drop(2), 8);
        EXPECT.same("HOME", Expect.houseOf(phone) + " " + phone.flat(1, 3) + phone.flat(1, 4) + phone.flat(2, 4)
                + phone.size(7), "0!49 1. 2. 0000");
        EXPECT.same("HOME again", phone.drop(1), -3);
        phone.hang(0);
        phone.ring(1, 5);
        EXPECT.same("COMING to a ring", phone.drop(1), -3);
        phone.want(2, 9);
        EXPECT.same("COMING of its own", phone.drop(2), 9);
        EXPECT.same("changes", phone.size(11), 6);
    }

    private static void promise32() {
        HallPhone phone = Expect.house("house 0 0 3;limit 2;want 0 50;want 1 7;pass 2;");
        EXPECT.same("QUEUED", phone.hang(1), -4);
        EXPECT.same("HOME", phone.hang(2), -4);
        EXPECT.same("SPEAKING", phone.hang(0), 1);
        EXPECT.same("not CUT", phone.account(2) * 10 + phone.account(1), 1);
        EXPECT.same("its DEBT", phone.flat(0, 6), 4);
        EXPECT.same("FREE", Expect.houseOf(phone) + " " + phone.size(2) + phone.size(3) + phone.size(4)
                + phone.size(5), "0. 1#0 2. 0-100");
        EXPECT.same("HOME again", phone.hang(0), -4);
        phone.pass(1);
        EXPECT.same("the next one", Expect.houseOf(phone), "0. 1!7 2.");
        EXPECT.same("no minutes", phone.hang(1), 0);
        EXPECT.same("no DEBT", phone.flat(1, 6), 0);
        phone.ring(2, 9);
        EXPECT.same("COMING to a ring", phone.hang(2), -4);
        phone.pass(6);
        EXPECT.same("a ring", phone.hang(2), 2);
        EXPECT.same("a ring costs nothing", phone.flat(2, 6) * 10 + phone.size(6), 0);
    }

    private static void promise33() {
        HallPhone phone = Expect.house("house 3 4 0 0;");
        EXPECT.same("PATIENCE", phone.ring(0, 99), 0);
        EXPECT.same("HELD", "" + phone.flat(0, 2) + phone.flat(0, 3) + phone.flat(0, 4) + phone.size(6), "1401");
        EXPECT.same("not FREE", phone.ring(1, 5), -5);
        phone.pass(4);
        EXPECT.same("speaks as long as it was rung for", phone.size(5), 99);
        EXPECT.same("not FREE", phone.ring(1, 5), -5);
        phone.want(3, 8);
        phone.want(2, 9);
        phone.pass(1);
        phone.hang(0);
        EXPECT.same("above PATIENCE", phone.ring(1, 5), 2);
        EXPECT.same("one that is QUEUED", phone.ring(3, 5), 1);
        EXPECT.same("it speaks at once", Expect.houseOf(phone) + " " + phone.flat(3, 4) + phone.size(4)
                + phone.size(6) + phone.size(7), "0. 1. 2#0 3!5 0011");
        phone.hang(3);
        EXPECT.same("its DEBT", phone.flat(3, 6), 0);
        phone.want(0, 5);
        EXPECT.same("one that is COMING", phone.ring(0, 5), 2);
        for (int i = 0; i < 6; i++) {
            EXPECT.same("a message", phone.ring(1, 5), 2);
        }
        EXPECT.same("LOST", phone.ring(1, 5), 3);
        EXPECT.same("LOST is a change", phone.size(11) * 100 + phone.account(8) * 10 + phone.size(9), 818);
        phone.undo();
        EXPECT.same("and can be undone", phone.account(8), 0);
    }

    private static void promise34() {
        HallPhone phone = Expect.house("house 0;want 0 9;pass 20;");
        EXPECT.same("DEBT", phone.flat(0, 6), 12);
        EXPECT.same("above", phone.pay(0, 13), -6);
        EXPECT.same("a part", phone.pay(0, 5), 7);
        EXPECT.same("all", phone.pay(0, 7), 0);
        EXPECT.same("above", phone.pay(0, 1), -6);
        EXPECT.same("accounts", phone.account(5) * 100 + phone.size(10), 1200);
        EXPECT.same("changes", phone.size(11), 2);
        EXPECT.same("the greatest amount", phone.pay(0, 9999), -6);
        EXPECT.argument("a greater one", () -> phone.pay(0, 10000));
        EXPECT.argument("nothing", () -> phone.pay(0, 0));
    }

    private static void promise35() {
        HallPhone phone = Expect.house("house 0 0 curious;");
        EXPECT.same("was not", phone.setCurious(0, true), false);
        EXPECT.same("was", phone.setCurious(0, true), true);
        EXPECT.same("is", phone.flat(0, 1), 1);
        EXPECT.same("was", phone.setCurious(1, false), true);
        EXPECT.same("is not", phone.flat(1, 1), 0);
        EXPECT.same("was not", phone.setCurious(1, false), false);
        EXPECT.same("changes", phone.size(11), 4);
    }

    private static void promise36() {
        HallPhone phone = Expect.house("house 0;");
        int[] first = {0, 3, 4, 1, 5, 3};
        int[] least = {0, 1, 0, 0, 1, 0};
        int[] greatest = {60, 30, 99, 9, 99, 20};
        for (int each = 0; each < 6; each++) {
            int which = each;
            EXPECT.same("previous " + which, phone.set(which, least[which]), first[which]);
            EXPECT.same("previous " + which, phone.set(which, greatest[which]), least[which]);
            EXPECT.same("now " + which, phone.setting(which), greatest[which]);
            EXPECT.argument("less " + which, () -> phone.set(which, least[which] - 1));
            EXPECT.argument("greater " + which, () -> phone.set(which, greatest[which] + 1));
            EXPECT.argument("least " + which, () -> phone.set(which, Integer.MIN_VALUE));
            EXPECT.same("no change " + which, phone.setting(which), greatest[which]);
        }
        EXPECT.argument("set(-1, 1)", () -> phone.set(-1, 1));
        EXPECT.argument("set(6, 1)", () -> phone.set(6, 1));
        EXPECT.argument("set(12, 1)", () -> phone.set(12, 1));
        EXPECT.same("the same is a change", Expect.house("house 0;").set(1, 3), 3);
    }

    private static void promise37() {
        HallPhone phone = Expect.house("house 0 0 0;want 0 3;want 1 3;want 2 3;");
        EXPECT.same("none ended", phone.pass(1), 0);
        EXPECT.same("two ended", phone.pass(6), 2);
        EXPECT.same("one ended", phone.pass(999), 1);
        EXPECT.same("time", phone.size(1), 1006);
        EXPECT.same("minutes", phone.account(0), 1006);
        EXPECT.same("none ended", phone.pass(1), 0);
        EXPECT.same("changes", phone.size(11), 4);
        phone.ring(0, 1);
        EXPECT.same("a ring ends too", phone.pass(2), 1);
    }

    private static void wrongNumbers() {
        HallPhone phone = new HallPhone();
        long before = phone.checksum();
        int[] noFlat = {-1, 5, Integer.MIN_VALUE, Integer.MAX_VALUE};
        for (int flat : noFlat) {
            EXPECT.index("want " + flat, () -> phone.want(flat, 0));
            EXPECT.index("drop " + flat, () -> phone.drop(flat));
            EXPECT.index("hang " + flat, () -> phone.hang(flat));
            EXPECT.index("ring " + flat, () -> phone.ring(flat, 0));
            EXPECT.index("pay " + flat, () -> phone.pay(flat, 0));
            EXPECT.index("setCurious " + flat, () -> phone.setCurious(flat, true));
        }
        int[] none = {-1, 0, 100, Integer.MIN_VALUE, Integer.MAX_VALUE};
        for (int minutes : none) {
            EXPECT.argument("want for " + minutes, () -> phone.want(0, minutes));
            EXPECT.argument("ring for " + minutes, () -> phone.ring(0, minutes));
            EXPECT.argument("pass " + minutes, () -> phone.pass(minutes == 100 ? 1000 : minutes));
            EXPECT.argument("pay " + minutes, () -> phone.pay(0, minutes == 100 ? 10000 : minutes));
        }
        EXPECT.same("nothing changed", phone.checksum(), before);
        EXPECT.same("no changes", phone.size(11), 0);
    }
}
