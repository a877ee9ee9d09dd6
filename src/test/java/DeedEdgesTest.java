/** The edges that section 3, deeds, and promises 30 to 37 name: a case for each sentence. */
public final class DeedEdgesTest {
    private static final Expect EXPECT = new Expect();
    private static final Class<IllegalArgumentException> ARGUMENT = IllegalArgumentException.class;
    private static final Class<IndexOutOfBoundsException> INDEX = IndexOutOfBoundsException.class;
    private static final int[] NO_FLAT = {-1, 5, 9, 10, Integer.MIN_VALUE, Integer.MAX_VALUE};
    private static final int[] NO_MINUTES = {0, 100, -1, Integer.MIN_VALUE, Integer.MAX_VALUE};

    public static void main(String[] args) {
        EXPECT.runCases(DeedEdgesTest.class);
    }

    /** 0 SPEAKS, 1 is QUEUED, 2 is COMING, 3 and 4 are HOME; 4 has a DEBT of 4. */
    private static HallPhone busyHouse() {
        return Expect.house("house 0 0 5 0 0;want 4 1;pass 2;want 0 50;pass 1;want 1 9;pass 1;want 2 9;");
    }

    /** 1 is COMING to a call from outside, 0 is QUEUED. */
    private static HallPhone heldHouse() {
        return Expect.house("house 0 3;ring 1 50;want 0 5;pass 1;");
    }

    // ---- "A deed that is refused returns the negative of its reason .. and changes nothing"

    /** "to want a call ..: 2 the flat is not HOME" */
    static void wantIsRefusedToOneThatIsNotHome() {
        HallPhone phone = busyHouse();
        EXPECT.refused("want of one that SPEAKS", phone, 2, () -> phone.want(0, 1));
        EXPECT.refused("want of one that is QUEUED", phone, 2, () -> phone.want(1, 99));
        EXPECT.refused("want of one that is COMING", phone, 2, () -> phone.want(2, 9));
        HallPhone held = heldHouse();
        EXPECT.refused("want of one that is called", held, 2, () -> held.want(1, 9));
    }

    /** "It is COMING with STEPS 1 plus its FLOOR, and this WISH"; promise 30: "Returns STEPS" */
    static void wantTakesOneStepMoreThanTheFloor() {
        HallPhone phone = Expect.house("house 0 9;");
        EXPECT.same("FLOOR 0", phone.want(0, 1), 1);
        EXPECT.same("FLOOR 9", phone.want(1, 99), 10);
        EXPECT.same("states", "" + phone.flat(0, 2) + phone.flat(1, 2), "11");
        EXPECT.same("STEPS", phone.flat(0, 3) * 100 + phone.flat(1, 3), 110);
        EXPECT.same("WISH", phone.flat(0, 4) * 100 + phone.flat(1, 4), 199);
    }

    /** "to want a call of some minutes (1 to 99)"; promise 30: "Throws IllegalArgumentException if minutes is out of range" */
    static void wantOfWrongMinutesThrows() {
        HallPhone phone = busyHouse();
        for (int minutes : NO_MINUTES) {
            EXPECT.thrownAndSame("want(3, " + minutes + ")", phone, ARGUMENT, () -> phone.want(3, minutes));
            EXPECT.thrownAndSame("ahead of the refusal", phone, ARGUMENT, () -> phone.want(0, minutes));
        }
        EXPECT.same("1", phone.want(3, 1), 1);
        EXPECT.same("99", phone.want(4, 99), 1);
    }

    /** "to give a wish up: 3 it is neither COMING (to a call of its own) nor QUEUED" */
    static void dropIsRefusedWithoutAWish() {
        HallPhone phone = busyHouse();
        EXPECT.refused("drop of one that SPEAKS", phone, 3, () -> phone.drop(0));
        EXPECT.refused("drop of one that is HOME", phone, 3, () -> phone.drop(3));
        HallPhone held = heldHouse();
        EXPECT.refused("drop of one that is called", held, 3, () -> held.drop(1));
    }

    /** "It is HOME": from the stairs; promise 31: "Returns the WISH" */
    static void dropOnTheStairs() {
        HallPhone phone = busyHouse();
        EXPECT.same("WISH", phone.drop(2), 9);
        EXPECT.same("HOME", "" + phone.flat(2, 2) + phone.flat(2, 3) + phone.flat(2, 4), "000");
        EXPECT.same("the others stay", Expect.houseOf(phone), "0!49 1#0 2. 3. 4.");
    }

    /** "It is HOME", and nothing else: messages are read in the hall alone, which it has not seen */
    static void dropOnTheStairsReadsNoMessage() {
        HallPhone phone = Expect.house("house 4;ring 0 1;want 0 5;pass 4;ring 0 1;drop 0;");
        EXPECT.same("slate", Expect.slateOf(phone) + " " + phone.account(7), "0@0 0@4 0");
        EXPECT.same("it never comes to the hall", phone.pass(9) * 10 + phone.size(9), 2);
    }

    /** "It is HOME": from each place of the queue */
    static void dropFromTheQueue() {
        String[] due = {"0!8 1. 2#0 3#1", "0!8 1#0 2. 3#1", "0!8 1#0 2#1 3."};
        for (int flat = 1; flat <= 3; flat++) {
            HallPhone phone = Expect.house("house 0 0 0 0;want 0 9;want 1 11;want 2 12;want 3 13;pass 2;");
            EXPECT.same("WISH", phone.drop(flat), 10 + flat);
            EXPECT.same("queue", Expect.houseOf(phone), due[flat - 1]);
            EXPECT.same("no place", phone.flat(flat, 5) * 10 + phone.flat(flat, 4), -10);
        }
    }

    /** COMING "(to a call of its own)": while the telephone is HELD for another one */
    static void dropWhileItIsHeldForAnotherOne() {
        HallPhone phone = Expect.house("house 3 3;ring 1 50;want 0 5;");
        EXPECT.same("COMING of its own", phone.drop(0), 5);
        EXPECT.same("HELD still", Expect.houseOf(phone) + " " + phone.size(2), "0. 1<4 1");
    }

    /** "to hang up: 4 the flat is not SPEAKING" */
    static void hangIsRefusedToOneThatIsNotSpeaking() {
        HallPhone phone = busyHouse();
        EXPECT.refused("hang of one that is QUEUED", phone, 4, () -> phone.hang(1));
        EXPECT.refused("hang of one that is COMING", phone, 4, () -> phone.hang(2));
        EXPECT.refused("hang of one that is HOME", phone, 4, () -> phone.hang(3));
        HallPhone held = heldHouse();
        EXPECT.refused("hang of one that is called", held, 4, () -> held.hang(1));
    }

    /** "The call ends as in (c), but is not CUT": with LEFT above 0, LIMIT reached and somebody QUEUED */
    static void hangIsNoCut() {
        HallPhone phone = busyHouse();
        phone.pass(3);
        phone.set(0, 1);
        EXPECT.same("SPOKEN", phone.hang(0), 4);
        EXPECT.same("ended, CUT", phone.account(1) * 10 + phone.account(2), 20);
        EXPECT.same("DEBT", phone.flat(0, 6) * 10 + phone.flat(0, 8), 81);
    }

    /** Promise 32: "Returns SPOKEN": 0 of a call that has just begun, which costs nothing and counts */
    static void hangAtOnce() {
        HallPhone phone = Expect.house("house 0;want 0 9;pass 1;");
        EXPECT.same("SPOKEN", phone.hang(0), 0);
        EXPECT.same("DEBT", phone.flat(0, 6) * 10 + phone.account(4), 0);
        EXPECT.same("ended", phone.flat(0, 8) * 10 + phone.account(1), 11);
        EXPECT.same("mean", phone.meanCall(), 0.0);
    }

    /** Promise 32: "(Who is QUEUED speaks with the next minute.)": not at once */
    static void hangLeavesTheQueueTillTheNextMinute() {
        HallPhone phone = busyHouse();
        phone.hang(0);
        EXPECT.same("FREE", phone.size(2) * 10 + phone.flat(1, 2), 2);
        phone.pass(1);
        EXPECT.same("BUSY", phone.size(2) * 10 + phone.flat(1, 2), 23);
        for (int queued = 1; queued <= 3; queued++) {
            HallPhone full = Expect.house("house 0 0 0 0;want 0 9;" + "want 1 9;want 2 9;want 3 9;".substring(0, 9 * queued)
                    + "pass 3;hang 0;");
            EXPECT.same("nobody is COMING", full.size(7) * 10 + full.size(8), 10 * queued);
            EXPECT.same("speaks in", full.speaksIn(1), 1);
            full.pass(1);
            EXPECT.same("speaks", full.size(3) * 10 + full.size(7), 10 + queued - 1);
        }
    }

    /** "to ring from outside ..: 5 the telephone is not FREE" */
    static void ringIsRefusedIfTheTelephoneIsNotFree() {
        HallPhone phone = busyHouse();
        for (int flat = 0; flat < 5; flat++) {
            int called = flat;
            EXPECT.refused("ring while BUSY", phone, 5, () -> phone.ring(called, 1));
        }
        HallPhone held = heldHouse();
        EXPECT.refused("ring while HELD for it", held, 5, () -> held.ring(1, 1));
        EXPECT.refused("ring while HELD", held, 5, () -> held.ring(0, 1));
    }

    /** The same sentence: a full slate changes nothing about it. */
    static void ringIsRefusedAheadOfALostCall() {
        HallPhone phone = Expect.house("house 9 0;ring 0 1;ring 0 1;ring 0 1;ring 0 1;ring 0 1;ring 0 1;ring 0 1;ring 0 1;"
                + "want 1 9;pass 1;");
        EXPECT.refused("ring", phone, 5, () -> phone.ring(0, 1));
        EXPECT.same("none is LOST", phone.account(8), 0);
    }

    /** "If the flat is HOME and its FLOOR is PATIENCE at most, the telephone is HELD" */
    static void patienceReachesItsOwnFloor() {
        for (int patience = 0; patience <= 9; patience++) {
            HallPhone phone = Expect.house("house 4;patience " + patience + ";");
            EXPECT.same("ring with PATIENCE " + patience, phone.ring(0, 5), patience < 4 ? 2 : 0);
            EXPECT.same("telephone", phone.size(2), patience < 4 ? 0 : 1);
        }
    }

    /** The same sentence: the least and the greatest PATIENCE */
    static void leastAndGreatestPatience() {
        HallPhone least = Expect.house("house 1 0;patience 0;");
        EXPECT.same("FLOOR 1, PATIENCE 0", least.ring(0, 1), 2);
        EXPECT.same("FLOOR 0, PATIENCE 0", least.ring(1, 1), 0);
        HallPhone greatest = Expect.house("house 9;patience 20;");
        EXPECT.same("FLOOR 9, PATIENCE 20", greatest.ring(0, 1), 0);
    }

    /** "the flat is COMING to this call with STEPS 1 plus its FLOOR" */
    static void aCalledFlatTakesOneStepMoreThanItsFloor() {
        HallPhone phone = Expect.house("house 0;patience 0;");
        phone.ring(0, 99);
        EXPECT.same("FLOOR 0", phone.flat(0, 2) * 100 + phone.flat(0, 3), 101);
        phone.pass(1);
        EXPECT.same("the minutes of the call", phone.size(5), 99);
        EXPECT.same("no message, none LOST", "" + phone.size(9) + phone.account(6) + phone.account(8), "000");
        phone = Expect.house("house 9;patience 9;");
        phone.ring(0, 1);
        EXPECT.same("FLOOR 9", phone.flat(0, 2) * 100 + phone.flat(0, 3), 110);
    }

    /** "if it is QUEUED, it is SPEAKING at once, with the WISH gone": from each place of the queue */
    static void ringForOneThatIsQueued() {
        String[] due = {"0. 1!99 2#0 3#1", "0. 1#0 2!99 3#1", "0. 1#0 2#1 3!99"};
        for (int flat = 1; flat <= 3; flat++) {
            HallPhone phone = Expect.house("house 0 0 0 0;want 0 9;want 1 8;want 2 8;want 3 8;pass 2;hang 0;");
            EXPECT.same("ring", phone.ring(flat, 99), 1);
            EXPECT.same("queue", Expect.houseOf(phone), due[flat - 1]);
            EXPECT.same("WISH, SPOKEN, outside", "" + phone.flat(flat, 4) + phone.size(4) + phone.size(6), "001");
            EXPECT.same("no message, none LOST", "" + phone.size(9) + phone.account(6) + phone.account(8), "000");
        }
    }

    /** The same sentence: neither PATIENCE nor a full slate matters then. */
    static void ringForOneThatIsQueuedOnAHighFloor() {
        HallPhone phone = Expect.house("house 9 0;patience 0;ring 0 1;ring 0 1;ring 0 1;ring 0 1;ring 0 1;ring 0 1;"
                + "want 0 9;pass 9;want 1 1;ring 0 1;ring 0 1;pass 1;");
        EXPECT.same("FLOOR 9 is in the hall", Expect.houseOf(phone), "0!9 1#0");
        phone.hang(0);
        EXPECT.same("ring for FLOOR 0, QUEUED", phone.ring(1, 7), 1);
    }

    /** "otherwise a message for it is written on the slate with TIME": it is HOME above PATIENCE */
    static void ringAboveThePatienceIsAMessage() {
        HallPhone phone = Expect.house("house 4;");
        EXPECT.same("TIME 0", phone.ring(0, 5) * 10 + phone.message(0, 1), 20);
        phone.pass(999);
        EXPECT.same("TIME 999", phone.ring(0, 5) * 1000 + phone.message(1, 1), 2999);
        EXPECT.same("nobody comes", phone.flat(0, 2) * 10 + phone.size(2), 0);
    }

    /** The same sentence: it is COMING of its own, whatever its FLOOR is */
    static void ringForOneThatIsComingIsAMessage() {
        HallPhone phone = Expect.house("house 0;want 0 7;");
        EXPECT.same("a message", phone.ring(0, 5), 2);
        EXPECT.same("COMING of its own still", phone.flat(0, 4) * 10 + phone.size(2), 70);
        phone.pass(1);
        EXPECT.same("read, and not from outside", "" + phone.size(9) + phone.size(5) + phone.size(6), "070");
    }

    /** "or the call is LOST, if there are 8": not if there are 7 */
    static void theNinthMessageIsLost() {
        HallPhone phone = Expect.house("house 4 9;");
        for (int i = 0; i < 7; i++) {
            phone.ring(i % 2, 5);
        }
        EXPECT.same("the eighth", phone.ring(0, 5) * 10 + phone.account(8), 20);
        String slate = Expect.slateOf(phone);
        EXPECT.same("the ninth", phone.ring(1, 5) * 10 + phone.account(8), 31);
        EXPECT.same("the slate stays", Expect.slateOf(phone), slate);
        EXPECT.same("written", phone.account(6), 8);
        EXPECT.same("LOST while COMING", phone.want(0, 1) * 10 + phone.ring(0, 5), 53);
    }

    /** "to ring .. for some minutes (1 to 99)"; promise 33: "Throws IllegalArgumentException if minutes is out of range" */
    static void ringOfWrongMinutesThrows() {
        HallPhone phone = Expect.house("house 0 0 4 9 9;");
        HallPhone busy = busyHouse();
        for (int minutes : NO_MINUTES) {
            EXPECT.thrownAndSame("ring(0, " + minutes + ")", phone, ARGUMENT, () -> phone.ring(0, minutes));
            EXPECT.thrownAndSame("for a message", phone, ARGUMENT, () -> phone.ring(3, minutes));
            EXPECT.thrownAndSame("ahead of the refusal", busy, ARGUMENT, () -> busy.ring(0, minutes));
        }
        EXPECT.same("1", phone.ring(0, 1), 0);
        EXPECT.same("ends behind a minute", phone.pass(2), 1);
        EXPECT.same("99", phone.ring(1, 99), 0);
    }

    /** "to pay an amount ..: 6 it is above the DEBT" */
    static void payIsRefusedAboveTheDebt() {
        HallPhone phone = busyHouse();
        EXPECT.refused("pay without a DEBT", phone, 6, () -> phone.pay(0, 1));
        EXPECT.refused("pay of a penny more", phone, 6, () -> phone.pay(4, 5));
        EXPECT.refused("pay of the greatest amount", phone, 6, () -> phone.pay(4, 9999));
    }

    /** "The DEBT is less by it": the whole DEBT can be paid, at once or penny by penny; promise 34: "Returns the DEBT then" */
    static void payOfTheWholeDebt() {
        HallPhone phone = busyHouse();
        EXPECT.same("a penny", phone.pay(4, 1), 3);
        EXPECT.same("the rest", phone.pay(4, 3), 0);
        EXPECT.same("paid", phone.account(5) * 10 + phone.size(10), 40);
        EXPECT.refused("pay again", phone, 6, () -> phone.pay(4, 1));
    }

    /** "to pay an amount (1 to 9999)"; promise 34: "Throws IllegalArgumentException if amount is out of range" */
    static void payOfAWrongAmountThrows() {
        HallPhone phone = Expect.house("house 0;unit 1;rate 99;want 0 99;pass 100;want 0 99;pass 100;");
        int[] wrong = {0, 10000, -1, Integer.MIN_VALUE, Integer.MAX_VALUE};
        for (int amount : wrong) {
            EXPECT.thrownAndSame("pay(0, " + amount + ")", phone, ARGUMENT, () -> phone.pay(0, amount));
        }
        EXPECT.same("9999", phone.pay(0, 9999), 19602 - 9999);
        EXPECT.same("1", phone.pay(0, 1), 19602 - 10000);
        HallPhone poor = Expect.house("house 0;");
        EXPECT.thrownAndSame("ahead of the refusal", poor, ARGUMENT, () -> poor.pay(0, 10000));
    }

    // ---- promises 30 to 35: "throws IndexOutOfBoundsException", ahead of other exceptions and of refusals

    static void wantOfNoFlatThrows() {
        HallPhone phone = busyHouse();
        for (int flat : NO_FLAT) {
            EXPECT.thrownAndSame("want " + flat, phone, INDEX, () -> phone.want(flat, 1));
            EXPECT.thrownAndSame("want " + flat + " wrongly", phone, INDEX, () -> phone.want(flat, 0));
        }
    }

    static void dropOfNoFlatThrows() {
        HallPhone phone = busyHouse();
        for (int flat : NO_FLAT) {
            EXPECT.thrownAndSame("drop " + flat, phone, INDEX, () -> phone.drop(flat));
        }
    }

    static void hangOfNoFlatThrows() {
        HallPhone phone = busyHouse();
        for (int flat : NO_FLAT) {
            EXPECT.thrownAndSame("hang " + flat, phone, INDEX, () -> phone.hang(flat));
        }
    }

    static void ringForNoFlatThrows() {
        HallPhone phone = busyHouse();
        for (int flat : NO_FLAT) {
            EXPECT.thrownAndSame("ring " + flat, phone, INDEX, () -> phone.ring(flat, 1));
            EXPECT.thrownAndSame("ring " + flat + " wrongly", phone, INDEX, () -> phone.ring(flat, 100));
        }
    }

    static void payOfNoFlatThrows() {
        HallPhone phone = busyHouse();
        for (int flat : NO_FLAT) {
            EXPECT.thrownAndSame("pay " + flat, phone, INDEX, () -> phone.pay(flat, 1));
            EXPECT.thrownAndSame("pay " + flat + " wrongly", phone, INDEX, () -> phone.pay(flat, 10000));
        }
    }

    static void setCuriousOfNoFlatThrows() {
        HallPhone phone = busyHouse();
        for (int flat : NO_FLAT) {
            EXPECT.thrownAndSame("setCurious " + flat, phone, INDEX, () -> phone.setCurious(flat, true));
        }
    }

    // ---- promises 35 to 37

    /** Promise 35: "Returns whether it was": also if it stays so */
    static void setCuriousTellsWhetherItWas() {
        HallPhone phone = Expect.house("house 0 0 curious;");
        EXPECT.same("stays not", phone.setCurious(0, false), false);
        EXPECT.same("becomes", phone.setCurious(0, true), false);
        EXPECT.same("stays", phone.setCurious(1, true), true);
        EXPECT.same("is no more", phone.setCurious(1, false), true);
        EXPECT.same("now", phone.flat(0, 1) * 10 + phone.flat(1, 1), 10);
    }

    /** Promise 36: "Throws IllegalArgumentException if which or value is out of range" */
    static void setOfAWrongSettingThrows() {
        HallPhone phone = busyHouse();
        int[] wrong = {-1, 6, 7, 11, 12, Integer.MIN_VALUE, Integer.MAX_VALUE};
        for (int which : wrong) {
            EXPECT.thrownAndSame("set " + which, phone, ARGUMENT, () -> phone.set(which, 1));
        }
        for (int which = 0; which < 6; which++) {
            int each = which;
            EXPECT.thrownAndSame("least", phone, ARGUMENT, () -> phone.set(each, Integer.MIN_VALUE));
            EXPECT.thrownAndSame("greatest", phone, ARGUMENT, () -> phone.set(each, Integer.MAX_VALUE));
        }
    }

    /** Promise 36: "Returns the previous number": of this setting alone, and the others stay */
    static void setLeavesTheOtherSettings() {
        int[] first = {0, 3, 4, 1, 5, 3};
        for (int which = 0; which < 6; which++) {
            HallPhone phone = Expect.house("house 0;");
            EXPECT.same("previous", phone.set(which, 9), first[which]);
            for (int other = 0; other < 6; other++) {
                EXPECT.same("setting " + other, phone.setting(other), other == which ? 9 : first[other]);
            }
        }
    }

    /** Promise 37: "minutes: 1 to 999", "Throws IllegalArgumentException if minutes is out of range" */
    static void passOfWrongMinutesThrows() {
        HallPhone phone = busyHouse();
        int[] wrong = {0, 1000, -1, Integer.MIN_VALUE, Integer.MAX_VALUE};
        for (int minutes : wrong) {
            EXPECT.thrownAndSame("pass " + minutes, phone, ARGUMENT, () -> phone.pass(minutes));
        }
        int before = phone.size(1);
        phone.pass(1);
        EXPECT.same("1", phone.size(1) - before, 1);
        phone.pass(999);
        EXPECT.same("999", phone.size(1) - before, 1000);
    }

    /** Promise 37: "Returns how many calls ended in them": none, and all of a full house */
    static void passCountsTheCallsThatEnd() {
        HallPhone phone = Expect.house("house 0 0 0 0 0 0 0 0 0 9;");
        EXPECT.same("nobody speaks", phone.pass(999), 0);
        for (int flat = 0; flat < 10; flat++) {
            phone.want(flat, 99);
        }
        EXPECT.same("in the last minute but one", phone.pass(990), 9);
        EXPECT.same("in the last", phone.pass(1), 1);
        EXPECT.same("a call that was hung up is not in them", phone.want(0, 9) + phone.pass(5) + phone.hang(0)
                + phone.pass(1), 5);
    }
}
