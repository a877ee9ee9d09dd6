/** Promises 5 to 14. */
public final class QuestionsTest {
    private static final Expect EXPECT = new Expect();

    static String sizes(HallPhone phone) {
        StringBuilder row = new StringBuilder();
        for (int what = 0; what <= 10; what++) {
            row.append(what > 0 ? " " : "").append(phone.size(what));
        }
        return row.toString();
    }

    static String flat(HallPhone phone, int flat) {
        StringBuilder row = new StringBuilder();
        for (int what = 0; what <= 10; what++) {
            row.append(what > 0 ? " " : "").append(phone.flat(flat, what));
        }
        return row.toString();
    }

    public static void main(String[] args) {
        promises5And7();
        wrongNumbers();
        promise6();
        promise8();
        promise9();
        promises10To12();
        promise13();
        promise14();
        EXPECT.end("QuestionsTest");
    }

    private static void promises5And7() {
        HallPhone phone = Expect.house("house 0 1 5;");
        EXPECT.same("at first", sizes(phone), "3 0 0 -1 0 0 0 0 0 0 0");
        EXPECT.same("flat 2 at first", flat(phone, 2), "5 0 0 0 0 -1 0 0 0 0 0");
        EXPECT.same("ring", phone.ring(1, 9), 0);
        EXPECT.same("HELD", sizes(phone), "3 0 1 1 0 0 1 0 1 0 0");
        EXPECT.same("COMING to a ring", flat(phone, 1), "1 0 1 2 0 -1 0 0 0 0 0");
        phone.pass(2);
        EXPECT.same("BUSY by a ring", sizes(phone), "3 2 2 1 0 9 1 0 0 0 0");
        phone.want(0, 4);
        phone.pass(1);
        EXPECT.same("somebody QUEUED", sizes(phone), "3 3 2 1 1 8 1 1 0 0 0");
        phone.want(2, 5);
        EXPECT.same("somebody COMING", sizes(phone), "3 3 2 1 1 8 1 1 1 0 0");
        EXPECT.same("flat QUEUED", flat(phone, 0), "0 0 2 0 4 0 0 0 0 0 1");
        EXPECT.same("flat SPEAKING", flat(phone, 1), "1 0 3 0 0 -1 0 1 0 0 0");
        EXPECT.same("flat COMING", flat(phone, 2), "5 0 1 6 5 -1 0 0 0 0 0");
        phone.hang(1);
        EXPECT.same("FREE", sizes(phone), "3 3 0 -1 0 0 0 1 1 0 0");
        phone.ring(2, 3);
        EXPECT.same("a message", sizes(phone), "3 3 0 -1 0 0 0 1 1 1 0");
        EXPECT.same("messages for 2", phone.flat(2, 9) * 10 + phone.flat(0, 9), 10);
        phone.pass(1);
        EXPECT.same("BUSY by a wish", sizes(phone), "3 4 2 0 0 4 0 0 1 1 0");
        phone.pass(4);
        EXPECT.same("a DEBT", sizes(phone), "3 8 0 -1 0 0 0 0 1 1 8");
        phone.pass(1);
        EXPECT.same("the message is read", sizes(phone), "3 9 2 2 0 5 0 0 0 0 8");
        EXPECT.same("flat 0", flat(phone, 0), "0 0 0 0 0 -1 8 4 1 0 1");
        EXPECT.same("flat 1", flat(phone, 1), "1 0 0 0 0 -1 0 1 1 0 0");
        EXPECT.same("flat 2", flat(phone, 2), "5 0 3 0 0 -1 0 0 0 0 0");
        EXPECT.same("changes", phone.size(11), 8);
        phone.undo();
        EXPECT.same("changes behind undo", phone.size(11), 7);
        phone.append(0, 0, 0, 0, 0);
        EXPECT.same("buffer", phone.size(12), 20);
        phone.writeHouse();
        EXPECT.same("report", phone.size(13), "0. 1. 2<1".length());
        phone.setCurious(1, true);
        EXPECT.same("curious", phone.flat(1, 1), 1);
    }

    private static void wrongNumbers() {
        HallPhone phone = new HallPhone();
        int[] none = {-1, 14, Integer.MIN_VALUE, Integer.MAX_VALUE};
        for (int what : none) {
            EXPECT.argument("size " + what, () -> phone.size(what));
        }
        int[] noFlat = {-1, 5, 10, 11, Integer.MIN_VALUE, Integer.MAX_VALUE, 1 << 28};
        for (int flat : noFlat) {
            EXPECT.index("flat " + flat, () -> phone.flat(flat, 0));
            EXPECT.index("flat " + flat, () -> phone.flat(flat, 11));
            EXPECT.index("heard of " + flat, () -> phone.heard(0, flat));
            EXPECT.index("heard by " + flat, () -> phone.heard(flat, 0));
            EXPECT.index("knowing " + flat, () -> phone.knowing(flat));
            EXPECT.index("listening " + flat, () -> phone.listening(flat));
        }
        EXPECT.argument("flat(0, -1)", () -> phone.flat(0, -1));
        EXPECT.argument("flat(0, 11)", () -> phone.flat(0, 11));
    }

    private static void promise6() {
        HallPhone phone = Expect.house("house 0;limit 1;unit 2;rate 3;ear 4;secret 5;patience 6;");
        for (int which = 0; which < 6; which++) {
            EXPECT.same("setting " + which, phone.setting(which), which + 1);
        }
        EXPECT.argument("setting(-1)", () -> phone.setting(-1));
        EXPECT.argument("setting(6)", () -> phone.setting(6));
    }

    private static void promise8() {
        HallPhone phone = Expect.house("house 0 0 0 0;want 0 50;pass 1;want 2 5;want 1 6;pass 1;want 3 7;pass 1;");
        EXPECT.same("queue", "" + phone.queued(0) + phone.queued(1) + phone.queued(2) + phone.queued(3), "123-1");
        phone.drop(2);
        EXPECT.same("queue", "" + phone.queued(0) + phone.queued(1) + phone.queued(2), "13-1");
        EXPECT.same("place", phone.flat(3, 5), 1);
        EXPECT.same("no place", phone.queued(-1), -1);
        EXPECT.same("no place", phone.queued(10), -1);
        EXPECT.same("no place", phone.queued(Integer.MIN_VALUE), -1);
        EXPECT.same("no place", phone.queued(Integer.MAX_VALUE), -1);
    }

    private static void promise9() {
        HallPhone phone = Expect.house("house 9 8;patience 0;ring 1 5;pass 7;ring 0 5;");
        EXPECT.same("flats", phone.message(0, 0) * 10 + phone.message(1, 0), 10);
        EXPECT.same("minutes", phone.message(0, 1) * 10 + phone.message(1, 1), 7);
        int[] none = {-1, 2, 8, Integer.MIN_VALUE, Integer.MAX_VALUE};
        for (int message : none) {
            EXPECT.noElement("message " + message, () -> phone.message(message, 0));
            EXPECT.noElement("message " + message, () -> phone.message(message, 2));
        }
        EXPECT.argument("message(1, 2)", () -> phone.message(1, 2));
        EXPECT.argument("message(0, -1)", () -> phone.message(0, -1));
        phone.undo();
        phone.want(1, 1);
        phone.pass(9);
        EXPECT.same("the first is wiped off", phone.message(0, 0) * 10 + phone.message(0, 1), 7);
        EXPECT.noElement("one is left", () -> phone.message(1, 0));
    }

    private static void promises10To12() {
        HallPhone phone = Expect.house("house 1 curious 2 curious 0 0 curious; want 2 9; pass 5;");
        EXPECT.same("heard of 2", "" + phone.heard(0, 2) + phone.heard(1, 2) + phone.heard(2, 2) + phone.heard(3, 2),
                "4004");
        EXPECT.same("heard by 2", "" + phone.heard(2, 0) + phone.heard(2, 1) + phone.heard(2, 3), "000");
        EXPECT.same("not known yet", phone.knowing(2), 0);
        phone.pass(1);
        EXPECT.same("known", phone.knowing(2), 1 + 8);
        EXPECT.same("not of others", phone.knowing(0), 0);
        EXPECT.same("listening", phone.listening(2), 1 + 8);
        phone.set(4, 6);
        EXPECT.same("a greater SECRET", phone.knowing(2), 0);
        phone.set(3, 2);
        EXPECT.same("a greater EAR", phone.listening(2), 1 + 2 + 8);
        EXPECT.same("without itself", phone.listening(0), 2 + 8);
        phone.setCurious(2, true);
        EXPECT.same("one that speaks", phone.listening(0), 2 + 8);
        phone.want(3, 1);
        EXPECT.same("one that is COMING", phone.listening(0), 2);
        phone.pass(1);
        EXPECT.same("one that is QUEUED", phone.listening(1), 1);
        phone.setCurious(0, false);
        EXPECT.same("one that is not CURIOUS", phone.listening(1), 0);
    }

    private static void promise13() {
        HallPhone phone = Expect.house("house 0 curious 0 curious 0 curious; secret 1;");
        EXPECT.same("none", phone.mostKnown(), -1);
        phone.want(2, 1);
        phone.pass(2);
        EXPECT.same("known by 0 and 1", phone.knowing(2), 3);
        EXPECT.same("most known", phone.mostKnown(), 2);
        phone.want(0, 1);
        phone.want(1, 1);
        phone.pass(2);
        EXPECT.same("known by 2 alone", phone.knowing(0), 4);
        EXPECT.same("most known still", phone.mostKnown(), 2);
        phone.pass(1);
        EXPECT.same("known by 0 and 2", phone.knowing(1), 5);
        EXPECT.same("the least of two", phone.mostKnown(), 1);
        phone.want(0, 2);
        phone.pass(2);
        EXPECT.same("the least of three", phone.mostKnown(), 0);
    }

    private static void promise14() {
        HallPhone phone = Expect.house("house 0;");
        EXPECT.same("costs", phone.cost(1) + " " + phone.cost(3) + " " + phone.cost(4) + " " + phone.cost(99),
                "4 4 8 132");
        phone.set(1, 30);
        EXPECT.same("greatest UNIT", phone.cost(30) + " " + phone.cost(31), "4 8");
        phone.set(1, 1);
        phone.set(2, 99);
        EXPECT.same("greatest cost", phone.cost(99), 9801);
        phone.set(2, 0);
        EXPECT.same("no RATE", phone.cost(99), 0);
        int[] none = {-1, 0, 100, Integer.MIN_VALUE, Integer.MAX_VALUE};
        for (int minutes : none) {
            EXPECT.argument("cost " + minutes, () -> phone.cost(minutes));
        }
    }
}
