/** The edges that promises 15 to 26, reasons and what would be, name: a case for each sentence. */
public final class FutureEdgesTest {
    private static final Expect EXPECT = new Expect();
    private static final Class<IllegalArgumentException> ARGUMENT = IllegalArgumentException.class;
    private static final Class<IndexOutOfBoundsException> INDEX = IndexOutOfBoundsException.class;
    private static final int[] NO_FLAT = {-1, 3, 9, 10, Integer.MIN_VALUE, Integer.MAX_VALUE};
    private static final int[] NO_MINUTES = {-1, 501, Integer.MIN_VALUE, Integer.MAX_VALUE};
    /** Seven flats; 0 to 4 will speak 99 minutes each. */
    private static final String LONG = "house 0 0 0 0 0 0 0 curious;want 0 99;want 1 99;want 2 99;want 3 99;want 4 99;";

    public static void main(String[] args) {
        EXPECT.runCases(FutureEdgesTest.class);
    }

    /** 0 SPEAKS, 1 is QUEUED, 2 is COMING. */
    private static HallPhone smallHouse() {
        return Expect.house("house 0 0 9;want 0 50;pass 1;want 1 9;pass 1;want 2 9;");
    }

    /** 5 will speak some minutes behind the 495 of the others, and 6 behind it. */
    private static HallPhone longHouse(int minutesOfFive) {
        return Expect.house(LONG + "want 5 " + minutesOfFive + ";want 6 5;pass 1;");
    }

    // ---- why

    /** Promise 15: "throws IndexOutOfBoundsException", ahead of the other exception */
    static void whyOfNoFlatThrows() {
        HallPhone phone = smallHouse();
        for (int flat : NO_FLAT) {
            EXPECT.thrownAndSame("why(" + flat + ", 0)", phone, INDEX, () -> phone.why(flat, 0));
            EXPECT.thrownAndSame("why(" + flat + ", 2)", phone, INDEX, () -> phone.why(flat, 2));
        }
    }

    /** Promise 15: "Throws IllegalArgumentException if depth is out of range" */
    static void whyOfAWrongDepthThrows() {
        HallPhone phone = smallHouse();
        for (int depth : new int[] {-1, 2, Integer.MIN_VALUE, Integer.MAX_VALUE}) {
            EXPECT.thrownAndSame("why(0, " + depth + ")", phone, ARGUMENT, () -> phone.why(0, depth));
        }
    }

    /** "0 it does", "of 0 SPOKEN": in the first minute and from outside */
    static void whyOfOneThatSpeaks() {
        HallPhone phone = Expect.house("house 0;want 0 9;pass 1;");
        EXPECT.same("just begun", phone.why(0, 0) * 10 + phone.why(0, 1), 0);
        phone.pass(8);
        EXPECT.same("the last minute", phone.why(0, 0) * 10 + phone.why(0, 1), 8);
        phone.hang(0);
        phone.ring(0, 9);
        phone.pass(3);
        EXPECT.same("from outside", phone.why(0, 0) * 10 + phone.why(0, 1), 2);
    }

    /** "1 it is HOME", "of 1 messages for it": none, and eight */
    static void whyOfOneThatIsHome() {
        HallPhone phone = Expect.house("house 0 9;");
        EXPECT.same("no message", phone.why(1, 0) * 10 + phone.why(1, 1), 10);
        for (int i = 0; i < 9; i++) {
            phone.ring(1, 1);
        }
        EXPECT.same("eight messages", phone.why(1, 0) * 10 + phone.why(1, 1), 18);
        EXPECT.same("none for the other one", phone.why(0, 1), 0);
    }

    /** "2 it is COMING", "of 2 STEPS": of its own and to a call from outside */
    static void whyOfOneThatIsComing() {
        HallPhone phone = Expect.house("house 9 3;want 0 1;ring 1 1;");
        EXPECT.same("of its own", phone.why(0, 0) * 100 + phone.why(0, 1), 210);
        EXPECT.same("called", phone.why(1, 0) * 100 + phone.why(1, 1), 204);
        phone.pass(3);
        EXPECT.same("the last step", phone.why(1, 0) * 100 + phone.why(1, 1), 201);
    }

    /** "3 it is QUEUED and another one speaks", "of 3 and 4 this other flat": also flat 0 */
    static void whyOfOneThatWaitsForASpeaker() {
        HallPhone phone = Expect.house("house 0 0 0;want 0 5;want 1 9;want 2 9;pass 1;");
        EXPECT.same("flat 0", "" + phone.why(1, 0) + phone.why(1, 1) + phone.why(2, 0) + phone.why(2, 1), "3030");
        phone.pass(5);
        EXPECT.same("flat 1", "" + phone.why(2, 0) + phone.why(2, 1), "31");
    }

    /** "4 it is QUEUED and the telephone is HELD" */
    static void whyOfOneThatWaitsForAHeldTelephone() {
        HallPhone phone = Expect.house("house 3 0;ring 0 5;want 1 5;pass 3;");
        EXPECT.same("HELD for flat 0", phone.why(1, 0) * 10 + phone.why(1, 1), 40);
        phone.pass(1);
        EXPECT.same("it speaks", phone.why(1, 0) * 10 + phone.why(1, 1), 30);
    }

    /** "5 it is QUEUED otherwise", "of 5 its place in the queue": from 0 */
    static void whyOfOneThatWaitsForTheMinute() {
        HallPhone phone = Expect.house("house 0 0 0;want 0 5;want 1 9;want 2 9;pass 1;hang 0;");
        EXPECT.same("places", "" + phone.why(1, 0) + phone.why(1, 1) + phone.why(2, 0) + phone.why(2, 1), "5051");
    }

    // ---- speaksIn, freeIn, flatIn, debtIn

    /** Promise 16: "throws IndexOutOfBoundsException" */
    static void speaksInOfNoFlatThrows() {
        HallPhone phone = smallHouse();
        for (int flat : NO_FLAT) {
            EXPECT.thrownAndSame("speaksIn(" + flat + ")", phone, INDEX, () -> phone.speaksIn(flat));
        }
    }

    /** Promise 16: "(0 if it is)": up to the last minute of the call */
    static void speaksInOfOneThatSpeaksIsZero() {
        HallPhone phone = Expect.house("house 0;want 0 2;");
        EXPECT.same("COMING", phone.speaksIn(0), 1);
        phone.pass(1);
        EXPECT.same("SPEAKING", phone.speaksIn(0), 0);
        phone.pass(1);
        EXPECT.same("the last minute", phone.speaksIn(0), 0);
        phone.pass(1);
        EXPECT.same("HOME", phone.speaksIn(0), -1);
    }

    /** Promise 16: "NONE if not within 500": 500 is within, 501 is not */
    static void speaksInReachesFiveHundred() {
        EXPECT.same("499", longHouse(4).speaksIn(6), 499);
        EXPECT.same("500", longHouse(5).speaksIn(6), 500);
        EXPECT.same("501", longHouse(6).speaksIn(6), -1);
    }

    /** The same sentence: nobody who is HOME comes of itself, also if a message waits for it */
    static void speaksInOfOneAtHomeIsNone() {
        HallPhone phone = Expect.house("house 9 0;ring 0 5;want 1 99;pass 1;");
        EXPECT.same("HOME", phone.speaksIn(0), -1);
    }

    /** Promise 17: "(0 if it is)": also if somebody is QUEUED or COMING */
    static void freeInOfAFreeTelephoneIsZero() {
        HallPhone phone = Expect.house("house 0 0 9;want 0 9;want 1 9;want 2 9;");
        EXPECT.same("COMING", phone.freeIn(), 0);
        phone.pass(1);
        EXPECT.same("BUSY", phone.freeIn(), 9 + 9 + 9);
        phone.hang(0);
        EXPECT.same("QUEUED", phone.freeIn(), 0);
    }

    /** Promise 17: "behind how many whole minutes": between (c) and (d) it is not FREE */
    static void freeInCountsWholeMinutes() {
        HallPhone phone = Expect.house("house 0 0;want 0 5;want 1 7;pass 1;");
        EXPECT.same("both calls", phone.freeIn(), 12);
        phone.drop(1);
        EXPECT.same("one call", phone.freeIn(), 5);
    }

    /** Promise 17: HELD is not FREE */
    static void freeInOfAHeldTelephone() {
        HallPhone phone = Expect.house("house 3;ring 0 5;");
        EXPECT.same("the stairs and the call", phone.freeIn(), 9);
    }

    /** Promise 17: "NONE if not within 500" */
    static void freeInReachesFiveHundred() {
        EXPECT.same("499", Expect.house(LONG + "want 5 4;pass 1;").freeIn(), 499);
        EXPECT.same("500", Expect.house(LONG + "want 5 5;pass 1;").freeIn(), 500);
        EXPECT.same("501", Expect.house(LONG + "want 5 6;pass 1;").freeIn(), -1);
    }

    /** Promise 18: both exceptions, and their order */
    static void flatInOfWrongNumbersThrows() {
        HallPhone phone = smallHouse();
        for (int flat : NO_FLAT) {
            EXPECT.thrownAndSame("flatIn(" + flat + ", 0)", phone, INDEX, () -> phone.flatIn(flat, 0));
            EXPECT.thrownAndSame("flatIn(" + flat + ", 501)", phone, INDEX, () -> phone.flatIn(flat, 501));
        }
        for (int minutes : NO_MINUTES) {
            EXPECT.thrownAndSame("flatIn(0, " + minutes + ")", phone, ARGUMENT, () -> phone.flatIn(0, minutes));
        }
    }

    /** Promise 18: "minutes: 0 to 500": 0 is now, 500 is the latest */
    static void flatInFromZeroToFiveHundred() {
        HallPhone phone = longHouse(5);
        EXPECT.same("now", "" + phone.flatIn(0, 0) + phone.flatIn(6, 0), "32");
        EXPECT.same("499", "" + phone.flatIn(5, 499) + phone.flatIn(6, 499), "32");
        EXPECT.same("500", "" + phone.flatIn(5, 500) + phone.flatIn(6, 500), "03");
        HallPhone small = smallHouse();
        EXPECT.same("COMING", "" + small.flatIn(2, 0) + small.flatIn(2, 9) + small.flatIn(2, 10), "112");
    }

    /** Promise 19: both exceptions, and their order */
    static void debtInOfWrongNumbersThrows() {
        HallPhone phone = smallHouse();
        for (int flat : NO_FLAT) {
            EXPECT.thrownAndSame("debtIn(" + flat + ", 0)", phone, INDEX, () -> phone.debtIn(flat, 0));
            EXPECT.thrownAndSame("debtIn(" + flat + ", -1)", phone, INDEX, () -> phone.debtIn(flat, -1));
        }
        for (int minutes : NO_MINUTES) {
            EXPECT.thrownAndSame("debtIn(0, " + minutes + ")", phone, ARGUMENT, () -> phone.debtIn(0, minutes));
        }
    }

    /** Promise 19: "minutes: 0 to 500": 0 is now, 500 is the latest; a call costs when it ends */
    static void debtInFromZeroToFiveHundred() {
        HallPhone phone = longHouse(5);
        EXPECT.same("now", phone.debtIn(0, 0), 0);
        EXPECT.same("a minute too early", phone.debtIn(0, 98), 0);
        EXPECT.same("the end", phone.debtIn(0, 99), 132);
        EXPECT.same("499", phone.debtIn(5, 499), 0);
        EXPECT.same("500", phone.debtIn(5, 500), 8);
        phone.pass(99);
        EXPECT.same("what it has now", phone.debtIn(0, 0) * 1000 + phone.debtIn(0, 500), 132132);
    }

    // ---- waitIf

    /** Promise 20: "throws IndexOutOfBoundsException" */
    static void waitIfOfNoFlatThrows() {
        HallPhone phone = smallHouse();
        for (int flat : NO_FLAT) {
            EXPECT.thrownAndSame("waitIf(" + flat + ")", phone, INDEX, () -> phone.waitIf(flat));
        }
    }

    /** Promise 20: "NONE if it is not HOME" */
    static void waitIfOfOneThatIsNotHomeIsNone() {
        HallPhone phone = smallHouse();
        EXPECT.same("SPEAKING, QUEUED, COMING", "" + phone.waitIf(0) + phone.waitIf(1) + phone.waitIf(2), "-1-1-1");
        HallPhone held = Expect.house("house 0;ring 0 5;");
        EXPECT.same("called", held.waitIf(0), -1);
    }

    /** Promise 20: "or not within 500" */
    static void waitIfReachesFiveHundred() {
        EXPECT.same("499", Expect.house(LONG + "want 5 4;pass 1;").waitIf(6), 499);
        EXPECT.same("500", Expect.house(LONG + "want 5 5;pass 1;").waitIf(6), 500);
        EXPECT.same("501", Expect.house(LONG + "want 5 6;pass 1;").waitIf(6), -1);
    }

    /** Promise 20: of a FREE telephone it is the stairs alone */
    static void waitIfOfAFreeTelephone() {
        HallPhone phone = Expect.house("house 0 9;");
        EXPECT.same("FLOOR 0, FLOOR 9", phone.waitIf(0) * 100 + phone.waitIf(1), 110);
        EXPECT.same("nobody comes", phone.size(8), 0);
    }

    /** Promise 20: "if it wanted a call now": it is QUEUED then, so that a LIMIT cuts the call ahead of it */
    static void waitIfCutsTheCallAheadOfIt() {
        HallPhone phone = Expect.house("house 0 3;limit 2;want 0 99;pass 1;");
        EXPECT.same("the stairs are longer than the LIMIT", phone.waitIf(1), 4);
        phone.set(0, 10);
        EXPECT.same("the LIMIT is longer than the stairs", phone.waitIf(1), 10);
        phone.set(0, 0);
        EXPECT.same("no LIMIT", phone.waitIf(1), 99);
    }

    // ---- bestLimit

    /** Promise 21: "NONE if there is none of them": all are HOME, or SPEAKING */
    static void bestLimitOfNobodyIsNone() {
        HallPhone phone = Expect.house("house 0 0;");
        EXPECT.same("all HOME", phone.bestLimit(), -1);
        phone.want(0, 50);
        phone.pass(1);
        EXPECT.same("one SPEAKING", phone.bestLimit(), -1);
    }

    /** Promise 21: "the flats that are QUEUED or COMING now": each of them is enough */
    static void bestLimitOfOneThatWaits() {
        HallPhone phone = Expect.house("house 0 9;want 0 50;pass 1;want 1 50;");
        EXPECT.same("COMING", phone.bestLimit(), 1);
        phone.pass(10);
        EXPECT.same("QUEUED", phone.bestLimit(), 1);
        HallPhone held = Expect.house("house 3;ring 0 5;");
        EXPECT.same("called", held.bestLimit(), 1);
    }

    /** Promise 21: "of several the least one": if the LIMIT does not matter, it is 1 */
    static void bestLimitOfSeveralIsTheLeast() {
        HallPhone phone = Expect.house("house 0 9;limit 60;want 0 2;want 1 2;");
        EXPECT.same("no LIMIT is needed", phone.bestLimit(), 1);
        EXPECT.same("LIMIT stays", phone.setting(0), 60);
    }

    /** Promise 21: "in the fewest minutes": also where without a LIMIT they would speak above 500 only */
    static void bestLimitOfALongQueue() {
        HallPhone phone = longHouse(99);
        EXPECT.same("without a LIMIT", phone.speaksIn(6), -1);
        int best = phone.bestLimit();
        EXPECT.same("best", best, 1);
        phone.set(0, best);
        EXPECT.same("all speak in", phone.speaksIn(6), 6);
    }

    // ---- learnsIn

    /** Promise 22: both exceptions, and their order */
    static void learnsInOfWrongNumbersThrows() {
        HallPhone phone = smallHouse();
        for (int flat : NO_FLAT) {
            EXPECT.thrownAndSame("learnsIn(" + flat + ", 0)", phone, INDEX, () -> phone.learnsIn(flat, 0));
            EXPECT.thrownAndSame("learnsIn(" + flat + ", 501)", phone, INDEX, () -> phone.learnsIn(flat, 501));
        }
        for (int minutes : NO_MINUTES) {
            EXPECT.thrownAndSame("learnsIn(0, " + minutes + ")", phone, ARGUMENT, () -> phone.learnsIn(0, minutes));
        }
    }

    /** Promise 22: "minutes: 0 to 500": nothing is learnt in 0, and 500 is the latest */
    static void learnsInFromZeroToFiveHundred() {
        HallPhone phone = Expect.house(LONG + "want 5 99;pass 1;");
        EXPECT.same("now", phone.learnsIn(6, 0), 0);
        EXPECT.same("a minute too early, and in time", phone.learnsIn(6, 4) * 10 + phone.learnsIn(6, 5), 1);
        EXPECT.same("499 and 500", phone.learnsIn(6, 499) * 100 + phone.learnsIn(6, 500), 3163);
    }

    /** Promise 22: "(that it does not know yet)" */
    static void learnsInLeavesOutWhatItKnows() {
        HallPhone phone = Expect.house(LONG + "pass 6;");
        EXPECT.same("known", phone.knowing(0), 64);
        EXPECT.same("now", phone.learnsIn(6, 0), 0);
        EXPECT.same("later", phone.learnsIn(6, 500), 30);
        phone.set(4, 6);
        EXPECT.same("SECRET is greater now", phone.learnsIn(6, 1), 1);
    }

    /** Section 5: "Sets of flats are told as the sum of 2 to the power of each": of ten flats, and no eleventh */
    static void learnsInOfTenFlats() {
        HallPhone phone = Expect.house("house 0 curious" + " 0 curious".repeat(9) + ";secret 1;want 0 1;want 9 1;pass 1;");
        EXPECT.same("1 learns of 0 and 9", phone.learnsIn(1, 500), 1 + 512);
        EXPECT.same("0 learns of 9", phone.learnsIn(0, 500), 512);
        EXPECT.same("9 was QUEUED", phone.learnsIn(9, 500), 0);
    }

    // ---- ifRung

    /** Promise 23: "throws IndexOutOfBoundsException": also if the telephone is not FREE */
    static void ifRungOfNoFlatThrows() {
        HallPhone phone = smallHouse();
        HallPhone free = Expect.house("house 0 0 0;");
        for (int flat : NO_FLAT) {
            EXPECT.thrownAndSame("ifRung(" + flat + ")", phone, INDEX, () -> phone.ifRung(flat));
            EXPECT.thrownAndSame("ifRung(" + flat + ")", free, INDEX, () -> free.ifRung(flat));
        }
    }

    /** Promise 23: "the reason by which it would be refused to ring for a flat (5)": not its negative */
    static void ifRungOfATelephoneThatIsNotFree() {
        HallPhone phone = smallHouse();
        EXPECT.same("BUSY", "" + phone.ifRung(0) + phone.ifRung(1) + phone.ifRung(2), "555");
        HallPhone held = Expect.house("house 3 0;ring 0 5;");
        EXPECT.same("HELD", "" + held.ifRung(0) + held.ifRung(1), "55");
    }

    /** Promise 23: "otherwise what would come of it": as ring() does then, in each case */
    static void ifRungTellsWhatRingDoes() {
        HallPhone phone = Expect.house("house 3 4 0 0;want 2 9;want 3 9;pass 2;hang 2;want 2 5;");
        EXPECT.same("HELD, message, COMING, QUEUED", "" + phone.ifRung(0) + phone.ifRung(1) + phone.ifRung(2)
                + phone.ifRung(3), "0221");
        for (int flat = 0; flat < 4; flat++) {
            int told = phone.ifRung(flat);
            EXPECT.same("ring " + flat, phone.ring(flat, 5), told);
            phone.undo();
        }
        for (int i = 0; i < 7; i++) {
            phone.ring(1, 1);
        }
        EXPECT.same("seven messages", phone.ifRung(1), 2);
        phone.ring(1, 1);
        EXPECT.same("eight messages", "" + phone.ifRung(0) + phone.ifRung(1) + phone.ifRung(2) + phone.ifRung(3),
                "0331");
        EXPECT.same("no change", phone.account(8), 0);
    }

    /** Section 5: "What would be is told as if only minutes passed": it changes nothing */
    static void whatWouldBeChangesNothing() {
        HallPhone phone = smallHouse();
        String before = Expect.all(phone);
        phone.waitIf(0);
        phone.bestLimit();
        phone.learnsIn(1, 500);
        phone.flatIn(2, 500);
        phone.ifRung(1);
        EXPECT.same("all", Expect.all(phone), before);
    }

    // ---- account, meanCall, busyShare

    /** Promise 24: "Throws IllegalArgumentException if what is out of range" */
    static void accountOfAWrongNumberThrows() {
        HallPhone phone = smallHouse();
        for (int what : new int[] {-1, 11, Integer.MIN_VALUE, Integer.MAX_VALUE}) {
            EXPECT.thrownAndSame("account(" + what + ")", phone, ARGUMENT, () -> phone.account(what));
        }
        EXPECT.same("0 and 10", phone.account(0) * 10 + phone.account(10), 20);
    }

    /** Promise 24: "10 .. (it is always 0)": with DEBT, payments and messages of each kind */
    static void theBalanceIsZero() {
        HallPhone phone = Expect.house("house 0 4;unit 1;rate 99;want 0 9;pass 20;");
        for (int i = 0; i < 10; i++) {
            EXPECT.same("behind a message", phone.account(10), 0);
            phone.ring(1, 1);
        }
        phone.pay(0, 500);
        EXPECT.same("behind a payment", phone.account(10), 0);
        phone.want(1, 5);
        phone.pass(7);
        EXPECT.same("behind the reading", phone.account(7) * 10 + phone.account(10), 80);
        phone.undo();
        phone.undo();
        EXPECT.same("behind undo", phone.account(10), 0);
    }

    /** Promise 24: a call that is LOST is no message, a message is no call that ended. */
    static void lostCallsAndMessagesAreApart() {
        HallPhone phone = Expect.house("house 4;");
        for (int i = 0; i < 9; i++) {
            phone.ring(0, 1);
        }
        EXPECT.same("ended, written, LOST", "" + phone.account(1) + phone.account(6) + phone.account(8), "081");
    }

    /** Promises 24 and 25: "calls that ended", "the calls that ended": also those from outside, which (c) ends too */
    static void callsFromOutsideEndToo() {
        HallPhone phone = Expect.house("house 0 0;ring 0 4;pass 5;");
        EXPECT.same("by itself", phone.account(1) * 10 + phone.flat(0, 8), 11);
        EXPECT.same("of one", phone.meanCall(), 4.0);
        phone.ring(0, 9);
        phone.pass(2);
        phone.hang(0);
        EXPECT.same("hung up", phone.account(1) * 10 + phone.flat(0, 8), 22);
        EXPECT.same("of two", phone.meanCall(), 5.0 / 2.0);
        phone.set(0, 3);
        phone.ring(0, 9);
        phone.want(1, 2);
        EXPECT.same("CUT, and the one behind it", phone.pass(6), 2);
        EXPECT.same("ended, CUT", "" + phone.account(1) + phone.account(2) + phone.flat(0, 8) + phone.flat(1, 8), "4131");
        EXPECT.same("of four", phone.meanCall(), 10.0 / 4.0);
        EXPECT.same("minutes that were spoken", phone.account(3), 10);
        EXPECT.same("money that became DEBT", phone.account(4), 4);
    }

    /** Promise 24: accounts 3 and 9: one minute of a call is heard by nobody, or by several flats together. */
    static void minutesThatWereHeard() {
        HallPhone phone = Expect.house("house 0 0 curious 0 curious;want 0 2;pass 3;");
        EXPECT.same("spoken, heard, LOST", "" + phone.account(3) + phone.account(9) + phone.account(8), "240");
        phone.set(3, 0);
        phone.setCurious(1, false);
        phone.setCurious(2, false);
        phone.want(0, 2);
        phone.pass(3);
        EXPECT.same("heard by nobody", phone.account(3) * 10 + phone.account(9), 44);
    }

    /** Promise 24: accounts 4 and 7 add up over calls and readings. */
    static void accountsAddUp() {
        HallPhone phone = Expect.house("house 0 4;want 0 1;pass 2;want 0 1;pass 2;ring 1 1;want 1 1;pass 6;");
        EXPECT.same("money", phone.account(4), 12);
        for (int i = 0; i < 3; i++) {
            phone.ring(1, 1);
        }
        phone.want(1, 1);
        phone.pass(6);
        EXPECT.same("messages that were read", phone.account(7) * 10 + phone.account(10), 40);
    }

    /** Promise 25: "0.0 without any": also while the first call goes on */
    static void meanCallWithoutCallsIsZero() {
        HallPhone phone = Expect.house("house 0;");
        EXPECT.same("no call", phone.meanCall(), 0.0);
        phone.want(0, 9);
        phone.pass(9);
        EXPECT.same("a call goes on", phone.meanCall(), 0.0);
        phone.pass(1);
        EXPECT.same("one ended", phone.meanCall(), 9.0);
    }

    /** Promise 25: "the minutes that were spoken in them": those of a call that goes on are not among them */
    static void meanCallLeavesOutTheCallThatGoesOn() {
        HallPhone phone = Expect.house("house 0;want 0 3;pass 4;want 0 50;pass 20;");
        EXPECT.same("of one", phone.meanCall(), 3.0);
        phone.hang(0);
        EXPECT.same("of two", phone.meanCall(), (3.0 + 19.0) / 2.0);
    }

    /** Promise 25: "both converted to double": no integer division, no float */
    static void meanCallIsADouble() {
        HallPhone phone = Expect.house("house 0;want 0 1;pass 2;want 0 1;pass 2;want 0 2;pass 3;");
        EXPECT.same("4 / 3", phone.meanCall(), 4.0 / 3.0);
    }

    /** Promise 26: "0.0f without minutes" */
    static void busyShareWithoutMinutesIsZero() {
        HallPhone phone = Expect.house("house 0;want 0 9;");
        EXPECT.same("no minute", phone.busyShare(), 0.0f);
        phone.pass(1);
        EXPECT.same("a minute, none spoken", phone.busyShare(), 0.0f);
        phone.pass(2);
        EXPECT.same("2 / 3", phone.busyShare(), 2.0f / 3.0f);
    }

    /** Promise 26: BUSY in (a): a HELD telephone is not, and a call counts from its first minute to its last */
    static void busyShareOfHeldMinutes() {
        HallPhone phone = Expect.house("house 3;ring 0 2;pass 4;");
        EXPECT.same("HELD", phone.busyShare(), 0.0f);
        phone.pass(3);
        EXPECT.same("2 / 7", phone.busyShare(), 2.0f / 7.0f);
    }
}
