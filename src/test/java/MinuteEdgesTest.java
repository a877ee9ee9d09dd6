/** The edges that section 2, a minute, names: a case for each sentence. */
public final class MinuteEdgesTest {
    private static final Expect EXPECT = new Expect();

    public static void main(String[] args) {
        EXPECT.runCases(MinuteEdgesTest.class);
    }

    /** "TIME (0 at first) becomes 1 greater" */
    static void timeBeginsAtZero() {
        HallPhone phone = Expect.house("house 0;");
        EXPECT.same("at first", phone.size(1) * 10 + phone.account(0), 0);
        phone.pass(1);
        EXPECT.same("a minute later", phone.size(1) * 10 + phone.account(0), 11);
    }

    // ---- (a)

    /** "If the telephone is BUSY": one that is FREE is not. */
    static void nobodySpeaksOnAFreeTelephone() {
        HallPhone phone = Expect.house("house 0 curious 9;want 1 5;pass 9;");
        EXPECT.same("spoken and heard", phone.account(3) * 10 + phone.account(9), 0);
        EXPECT.same("SPOKEN", phone.size(4), 0);
    }

    /** "If the telephone is BUSY": one that is HELD is not. */
    static void nobodySpeaksOnAHeldTelephone() {
        HallPhone phone = Expect.house("house 3 0 curious;ring 0 5;pass 4;");
        EXPECT.same("just in the hall", phone.size(4) * 10 + phone.size(5), 5);
        EXPECT.same("spoken and heard", phone.account(3) * 10 + phone.account(9), 0);
        EXPECT.same("minutes that it spoke", phone.flat(0, 7), 0);
    }

    /** "SPOKEN becomes 1 greater and LEFT 1 less" */
    static void spokenAndLeftMoveByOne() {
        HallPhone phone = Expect.house("house 0;want 0 99;pass 1;");
        EXPECT.same("at first", phone.size(4) * 100 + phone.size(5), 99);
        phone.pass(1);
        EXPECT.same("a minute later", phone.size(4) * 100 + phone.size(5), 198);
        phone.pass(97);
        EXPECT.same("the last minute but one", phone.size(4) * 100 + phone.size(5), 9801);
    }

    /** "for each flat that is HOME": not COMING, QUEUED or SPEAKING */
    static void onlyFlatsAtHomeHear() {
        HallPhone phone = Expect.house("house 0 curious 0 curious 1 curious 0 curious;want 0 50;pass 1;want 1 9;pass 1;"
                + "want 2 9;");
        EXPECT.same("COMING in (a)", phone.heard(1, 0), 0);
        phone.pass(1);
        EXPECT.same("QUEUED, COMING, HOME", "" + phone.heard(1, 0) + phone.heard(2, 0) + phone.heard(3, 0), "012");
        EXPECT.same("SPEAKING", phone.heard(0, 0), 0);
    }

    /** "and CURIOUS" */
    static void onlyCuriousFlatsHear() {
        HallPhone phone = Expect.house("house 0 0 0 curious;want 0 50;pass 2;");
        EXPECT.same("not CURIOUS, CURIOUS", "" + phone.heard(1, 0) + phone.heard(2, 0), "01");
    }

    /** "and whose FLOOR is EAR at most" */
    static void aFloorAboveEarHearsNothing() {
        HallPhone phone = Expect.house("house 0 4 curious 5 curious 6 curious;ear 5;want 0 50;pass 2;");
        EXPECT.same("below, at, above", "" + phone.heard(1, 0) + phone.heard(2, 0) + phone.heard(3, 0), "110");
        phone.set(3, 9);
        phone.pass(1);
        EXPECT.same("EAR 9", phone.heard(3, 0), 1);
        HallPhone least = Expect.house("house 0 0 curious 1 curious;ear 0;want 0 50;pass 2;");
        EXPECT.same("EAR 0", "" + least.heard(1, 0) + least.heard(2, 0), "10");
    }

    /** "HEARD of the flat that speaks becomes 1 greater", also in the minute in which the call ends. */
    static void theLastMinuteIsHeard() {
        HallPhone phone = Expect.house("house 0 0 curious;want 0 3;pass 4;");
        EXPECT.same("HOME again", phone.flat(0, 2), 0);
        EXPECT.same("heard", phone.heard(1, 0) * 10 + phone.heard(0, 1), 30);
    }

    /** (a) comes ahead of (b): one that comes to a call from outside speaks no minute when it arrives. */
    static void theMinuteOfTheArrivalIsNotSpoken() {
        HallPhone phone = Expect.house("house 0 0 curious;ring 0 1;pass 1;");
        EXPECT.same("speaks still", phone.flat(0, 2) * 10 + phone.size(5), 31);
        EXPECT.same("ends in the next", phone.pass(1) * 10 + phone.heard(1, 0), 11);
    }

    // ---- (b)

    /** "STEPS of each flat that is COMING become 1 less. Then those with 0 are in the hall" */
    static void stepsEndInTheHall() {
        HallPhone phone = Expect.house("house 9 0;want 1 99;pass 1;want 0 5;pass 9;");
        EXPECT.same("one step is left", phone.flat(0, 2) * 10 + phone.flat(0, 3), 11);
        phone.pass(1);
        EXPECT.same("QUEUED", phone.flat(0, 2) * 10 + phone.flat(0, 3), 20);
    }

    /** "in ascending order" */
    static void arrivalsQueueInAscendingOrder() {
        HallPhone phone = Expect.house("house 0 1 2 0;want 0 99;pass 1;want 2 5;pass 1;want 1 6;pass 1;want 3 7;pass 1;");
        EXPECT.same("one minute for all", Expect.houseOf(phone), "0!96 1#0 2#1 3#2");
    }

    /** "the messages for this flat are read and wiped off the slate": its own ones, when it is in the hall */
    static void messagesAreReadInTheHall() {
        HallPhone phone = Expect.house("house 4 4 0;ring 0 1;ring 1 1;ring 0 1;want 0 5;pass 4;");
        EXPECT.same("on the stairs", Expect.slateOf(phone) + " " + phone.account(7), "0@0 1@0 0@0 0");
        phone.pass(1);
        EXPECT.same("in the hall", Expect.slateOf(phone) + " " + phone.account(7), "1@0 2");
    }

    /** The same sentence, of a full slate: it is empty behind it, and takes eight again. */
    static void aFullSlateIsWipedOff() {
        HallPhone phone = Expect.house("house 4;");
        for (int i = 0; i < 8; i++) {
            phone.ring(0, 1);
        }
        phone.want(0, 1);
        phone.pass(6);
        EXPECT.same("read", phone.size(9) * 10 + phone.account(7), 8);
        for (int i = 0; i < 8; i++) {
            EXPECT.same("a message", phone.ring(0, 1), 2);
        }
        EXPECT.same("full again", phone.ring(0, 1), 3);
    }

    /** The same sentence, of one that comes to a call from outside. */
    static void aCalledFlatReadsItsMessages() {
        HallPhone phone = Expect.house("house 2;patience 1;ring 0 9;patience 2;ring 0 9;pass 2;");
        EXPECT.same("on the stairs", phone.size(9), 1);
        phone.pass(1);
        EXPECT.same("in the hall", phone.size(9) * 10 + phone.account(7), 1);
    }

    /** "if it comes to a call from outside, it is SPEAKING (SPOKEN 0)" */
    static void aCalledFlatSpeaksAtOnce() {
        HallPhone phone = Expect.house("house 2 0 1;ring 0 99;want 1 5;want 2 5;pass 3;");
        EXPECT.same("ahead of the queue", Expect.houseOf(phone) + " " + phone.size(4), "0!99 1#0 2#1 0");
    }

    /** "otherwise it is QUEUED, behind all others": also one with a smaller number */
    static void theQueueGrowsAtItsEnd() {
        HallPhone phone = Expect.house("house 0 0 0 0;want 3 99;pass 1;want 2 1;pass 1;want 0 1;pass 1;want 1 1;pass 1;");
        EXPECT.same("queue", Expect.houseOf(phone), "0#1 1#2 2#0 3!96");
    }

    // ---- (c)

    /** "If the telephone is BUSY and LEFT is 0" */
    static void aCallEndsWithNothingLeft() {
        HallPhone phone = Expect.house("house 0;want 0 2;pass 2;");
        EXPECT.same("one minute is left", phone.size(2) * 10 + phone.size(5), 21);
        EXPECT.same("ends", phone.pass(1), 1);
        EXPECT.same("FREE", phone.size(2), 0);
    }

    /** "SPOKEN is LIMIT or more": not one minute less */
    static void aCallIsCutAtTheLimit() {
        HallPhone phone = Expect.house("house 0 0;limit 5;want 0 9;want 1 9;pass 5;");
        EXPECT.same("one minute less", phone.size(3) * 10 + phone.size(4), 4);
        EXPECT.same("LIMIT", phone.pass(1), 1);
        EXPECT.same("the next one", phone.size(3) * 10 + phone.size(4), 10);
        EXPECT.same("CUT", phone.account(2), 1);
    }

    /** "SPOKEN is LIMIT or more": LIMIT can be far below SPOKEN. */
    static void aCallIsCutAboveTheLimit() {
        HallPhone phone = Expect.house("house 0 0;want 0 90;want 1 9;pass 41;");
        EXPECT.same("SPOKEN", phone.size(4), 40);
        phone.set(0, 7);
        EXPECT.same("CUT with the next minute", phone.pass(1) * 10 + phone.account(2), 11);
        EXPECT.same("cost of 41 minutes", phone.flat(0, 6), 56);
    }

    /** "LIMIT is above 0": 1 is the least one. */
    static void limitOneCutsEachMinute() {
        HallPhone phone = Expect.house("house 0 0 0 0;limit 1;want 0 9;want 1 9;want 2 9;want 3 9;pass 1;");
        EXPECT.same("three are CUT", phone.pass(3) * 10 + phone.account(2), 33);
        EXPECT.same("the last is not", phone.pass(8) * 10 + phone.account(2), 3);
    }

    /** "LIMIT is above 0": 60 is the greatest one. */
    static void limitSixtyCutsTheSixtiethMinute() {
        HallPhone phone = Expect.house("house 0 0;limit 60;want 0 99;want 1 9;pass 60;");
        EXPECT.same("59 minutes", phone.size(3) * 100 + phone.size(4), 59);
        EXPECT.same("60 minutes", phone.pass(1) * 10 + phone.account(2), 11);
    }

    /** "and somebody is QUEUED": nobody else ends a call, and COMING is not QUEUED. */
    static void aCallIsCutOnlyForTheQueue() {
        HallPhone phone = Expect.house("house 0 3;limit 2;want 0 50;pass 9;");
        EXPECT.same("nobody", phone.size(4) * 10 + phone.account(2), 80);
        phone.want(1, 5);
        EXPECT.same("COMING", phone.pass(3) * 10 + phone.account(2), 0);
        EXPECT.same("in the minute of the arrival", phone.pass(1) * 10 + phone.account(2), 11);
        EXPECT.same("the next one speaks", Expect.houseOf(phone), "0. 1!5");
    }

    /** "(in the second case, with LEFT above 0, it is CUT)": not with LEFT 0 */
    static void aCallThatEndsByItselfIsNotCut() {
        HallPhone phone = Expect.house("house 0 0;limit 5;want 0 5;want 1 9;");
        EXPECT.same("LEFT 0 at the LIMIT", phone.pass(6) * 10 + phone.account(2), 10);
        HallPhone longer = Expect.house("house 0 0;limit 5;want 0 6;want 1 9;");
        EXPECT.same("LEFT 1 at the LIMIT", longer.pass(6) * 10 + longer.account(2), 11);
    }

    /** "the flat is HOME" */
    static void whoHasSpokenIsHomeAtOnce() {
        HallPhone phone = Expect.house("house 0 9;want 0 1;want 1 1;pass 2;");
        EXPECT.same("FLOOR 0", phone.flat(0, 2), 0);
        phone.pass(9);
        EXPECT.same("FLOOR 9", phone.flat(1, 2) * 10 + phone.flat(1, 8), 1);
    }

    /** "for a call that did not come from outside": one from outside costs nothing, also if it is CUT */
    static void aCallFromOutsideCostsNothing() {
        HallPhone phone = Expect.house("house 0 0;limit 4;ring 0 9;want 1 9;pass 5;");
        EXPECT.same("CUT", phone.account(2), 1);
        EXPECT.same("no DEBT", phone.flat(0, 6) * 10 + phone.account(4), 0);
        phone.set(0, 0);
        phone.pass(9);
        EXPECT.same("the next one pays", phone.flat(1, 6) * 100 + phone.account(4), 1212);
    }

    /** "SPOKEN divided by UNIT, rounded up" */
    static void unitsAreRoundedUp() {
        int[] due = {4, 4, 4, 8, 8, 8, 12};
        for (int spoken = 1; spoken <= 7; spoken++) {
            HallPhone phone = Expect.house("house 0;unit 3;rate 4;want 0 " + spoken + ";pass 99;");
            EXPECT.same("DEBT of " + spoken, phone.flat(0, 6), due[spoken - 1]);
        }
    }

    /** "which is RATE times the UNITS": the greatest DEBT of a call, and none */
    static void theDearestAndTheCheapestCall() {
        HallPhone phone = Expect.house("house 0;unit 1;rate 99;want 0 99;pass 100;");
        EXPECT.same("RATE 99, UNIT 1", phone.flat(0, 6), 9801);
        phone = Expect.house("house 0;unit 1;rate 0;want 0 99;pass 100;");
        EXPECT.same("RATE 0", phone.flat(0, 6), 0);
        phone = Expect.house("house 0;unit 30;rate 99;want 0 1;pass 2;");
        EXPECT.same("UNIT 30", phone.flat(0, 6), 99);
    }

    // ---- (d)

    /** "If the telephone is FREE then": HELD is not FREE. */
    static void theQueueWaitsForAHeldTelephone() {
        HallPhone phone = Expect.house("house 3 0;ring 0 2;want 1 5;pass 3;");
        EXPECT.same("HELD", Expect.houseOf(phone), "0<1 1#0");
        EXPECT.same("QUEUED three minutes", phone.flat(1, 10), 3);
    }

    /** "If the telephone is FREE then": a call that ends in (c) makes it FREE in the same minute. */
    static void theNextOneSpeaksInTheSameMinute() {
        HallPhone phone = Expect.house("house 0 0;want 0 5;want 1 7;pass 5;");
        EXPECT.same("the last minute", Expect.houseOf(phone), "0!1 1#0");
        phone.pass(1);
        EXPECT.same("SPOKEN 0, LEFT its WISH", Expect.houseOf(phone) + " " + phone.size(4), "0. 1!7 0");
    }

    /** "and somebody is QUEUED": with an empty queue it stays FREE. */
    static void withAnEmptyQueueItStaysFree() {
        HallPhone phone = Expect.house("house 0 5;want 0 1;pass 1;want 1 1;pass 3;");
        EXPECT.same("FREE", phone.size(2) * 10 + phone.size(7), 0);
    }

    /** "the first one is SPEAKING": one alone, and the others stay in their order */
    static void onlyTheFirstOneSpeaks() {
        HallPhone phone = Expect.house("house 0 0 0;want 2 3;want 1 4;want 0 5;pass 1;");
        EXPECT.same("one", Expect.houseOf(phone), "0!5 1#0 2#1");
        phone.pass(5);
        EXPECT.same("two", Expect.houseOf(phone), "0. 1!4 2#0");
        phone.pass(4);
        EXPECT.same("three", Expect.houseOf(phone), "0. 1. 2!3");
    }
}
