/** The edges that promises 5 to 14, the questions, name: a case for each sentence. */
public final class QuestionEdgesTest {
    private static final Expect EXPECT = new Expect();
    private static final Class<IllegalArgumentException> ARGUMENT = IllegalArgumentException.class;
    private static final Class<IndexOutOfBoundsException> INDEX = IndexOutOfBoundsException.class;
    private static final int[] NO_FLAT = {-1, 3, 9, 10, 11, 1 << 28, Integer.MIN_VALUE, Integer.MAX_VALUE};

    public static void main(String[] args) {
        EXPECT.runCases(QuestionEdgesTest.class);
    }

    /** 0 SPEAKS, 1 is QUEUED, 2 is COMING; a message for 2. */
    private static HallPhone smallHouse() {
        return Expect.house("house 0 0 9;ring 2 1;want 0 50;pass 1;want 1 9;pass 1;want 2 9;");
    }

    private static HallPhone quietHouse() {
        return Expect.house("house 2 1 9;");
    }

    // ---- size

    /** Promise 5: "Throws IllegalArgumentException if what is out of range" */
    static void sizeOfAWrongNumberThrows() {
        HallPhone phone = smallHouse();
        for (int what : new int[] {-1, 14, Integer.MIN_VALUE, Integer.MAX_VALUE}) {
            EXPECT.thrownAndSame("size(" + what + ")", phone, ARGUMENT, () -> phone.size(what));
        }
        EXPECT.same("0", phone.size(0), 3);
        EXPECT.same("13", phone.size(13), 0);
    }

    /** "3 the flat that speaks or for which it is HELD (NONE)" */
    static void sizeOfNobodyIsNone() {
        HallPhone phone = quietHouse();
        EXPECT.same("FREE", phone.size(3), -1);
        phone.ring(1, 5);
        EXPECT.same("HELD", phone.size(3), 1);
        phone.pass(2);
        EXPECT.same("BUSY", phone.size(3), 1);
        phone.pass(5);
        EXPECT.same("FREE again", phone.size(3), -1);
        phone.want(2, 5);
        EXPECT.same("COMING of its own", phone.size(3), -1);
    }

    /** "(4 and 5: 0 if it is not BUSY)" */
    static void spokenAndLeftOfOneThatIsNotBusy() {
        HallPhone phone = Expect.house("house 0 9;want 0 50;pass 11;patience 9;");
        EXPECT.same("BUSY", phone.size(4) * 100 + phone.size(5), 1040);
        phone.hang(0);
        EXPECT.same("FREE", phone.size(4) * 100 + phone.size(5), 0);
        phone.ring(1, 50);
        EXPECT.same("HELD", phone.size(4) * 100 + phone.size(5), 0);
    }

    /** "6 1 if the call came from outside (also if it is HELD), 0 otherwise" */
    static void outsideIsOneOrZero() {
        HallPhone phone = quietHouse();
        phone.ring(2, 5);
        EXPECT.same("a message", phone.size(6), 0);
        phone.ring(1, 5);
        EXPECT.same("HELD", phone.size(6), 1);
        phone.undo();
        EXPECT.same("undone", phone.size(6), 0);
    }

    /** "7 flats that are QUEUED, 8 flats that are COMING": none and nine; one that is called is COMING too */
    static void countsOfFlats() {
        HallPhone phone = Expect.house("house 0 0 0 0 0 0 0 0 0 0;");
        EXPECT.same("nobody", phone.size(7) * 100 + phone.size(8), 0);
        phone.ring(0, 99);
        for (int flat = 1; flat < 10; flat++) {
            phone.want(flat, 1);
        }
        EXPECT.same("all are COMING", phone.size(7) * 100 + phone.size(8), 10);
        phone.pass(1);
        EXPECT.same("nine are QUEUED", phone.size(7) * 100 + phone.size(8), 900);
    }

    /** "10 the DEBT of all flats": more than one flat's */
    static void debtOfAllFlats() {
        HallPhone phone = Expect.house("house 0 0;unit 1;rate 99;");
        EXPECT.same("none", phone.size(10), 0);
        phone.want(0, 99);
        phone.want(1, 99);
        phone.pass(200);
        EXPECT.same("two", phone.size(10), 2 * 9801);
        phone.pay(1, 9801);
        EXPECT.same("one", phone.size(10), 9801);
    }

    /** "11 changes that can be undone": 8 at most */
    static void countOfChanges() {
        HallPhone phone = quietHouse();
        for (int i = 0; i < 20; i++) {
            EXPECT.same("behind " + i, phone.size(11), Math.min(i, 8));
            phone.pass(1);
        }
    }

    /** "12 the length of the buffer, 13 the length of the report" */
    static void lengthsOfBufferAndReport() {
        HallPhone phone = quietHouse();
        EXPECT.same("empty", phone.size(12) + phone.size(13), 0);
        phone.append(0, 0, 0, 0, 0);
        phone.writeHouse();
        EXPECT.same("lengths", phone.size(12) * 10 + phone.size(13), 208);
        phone.parse(0);
        EXPECT.same("buffer behind parse(0)", phone.size(12), 0);
    }

    // ---- setting

    /** Promise 6: "Throws IllegalArgumentException if which is out of range" */
    static void settingOfAWrongNumberThrows() {
        HallPhone phone = smallHouse();
        for (int which : new int[] {-1, 6, Integer.MIN_VALUE, Integer.MAX_VALUE}) {
            EXPECT.thrownAndSame("setting(" + which + ")", phone, ARGUMENT, () -> phone.setting(which));
        }
        EXPECT.same("0 and 5", phone.setting(0) * 10 + phone.setting(5), 3);
    }

    // ---- flat

    /** Promise 7: "throws IndexOutOfBoundsException", ahead of the other exception */
    static void flatOfNoFlatThrows() {
        HallPhone phone = smallHouse();
        for (int flat : NO_FLAT) {
            EXPECT.thrownAndSame("flat(" + flat + ", 0)", phone, INDEX, () -> phone.flat(flat, 0));
            EXPECT.thrownAndSame("flat(" + flat + ", 11)", phone, INDEX, () -> phone.flat(flat, 11));
        }
    }

    /** Promise 7: "Throws IllegalArgumentException if what is out of range" */
    static void flatOfAWrongNumberThrows() {
        HallPhone phone = smallHouse();
        for (int what : new int[] {-1, 11, Integer.MIN_VALUE, Integer.MAX_VALUE}) {
            EXPECT.thrownAndSame("flat(2, " + what + ")", phone, ARGUMENT, () -> phone.flat(2, what));
        }
        EXPECT.same("0 and 10", phone.flat(2, 0) * 10 + phone.flat(1, 10), 91);
    }

    /** "3 STEPS (0 if it is not COMING)" */
    static void stepsOfOneThatIsNotComing() {
        HallPhone phone = smallHouse();
        EXPECT.same("SPEAKING, QUEUED, COMING", "" + phone.flat(0, 3) + phone.flat(1, 3) + phone.flat(2, 3), "0010");
        phone.drop(2);
        EXPECT.same("HOME", phone.flat(2, 3), 0);
    }

    /** "4 WISH (0 without one)" */
    static void wishOfOneWithoutOne() {
        HallPhone phone = smallHouse();
        EXPECT.same("SPEAKING, QUEUED, COMING", "" + phone.flat(0, 4) + phone.flat(1, 4) + phone.flat(2, 4), "099");
        phone.drop(1);
        phone.drop(2);
        EXPECT.same("HOME", "" + phone.flat(1, 4) + phone.flat(2, 4), "00");
    }

    /** "5 its place in the queue, from 0 (NONE if it is not QUEUED)" */
    static void placeOfOneThatIsNotQueued() {
        HallPhone phone = smallHouse();
        EXPECT.same("SPEAKING, QUEUED, COMING", "" + phone.flat(0, 5) + phone.flat(1, 5) + phone.flat(2, 5), "-10-1");
        phone.drop(1);
        EXPECT.same("HOME", phone.flat(1, 5), -1);
    }

    /** "5 its place in the queue, from 0": nine places */
    static void placesOfALongQueue() {
        HallPhone phone = Expect.house("house 0 0 0 0 0 0 0 0 0 0;want 9 99;pass 1;");
        for (int flat = 0; flat < 9; flat++) {
            phone.want(flat, 1);
        }
        phone.pass(1);
        for (int flat = 0; flat < 9; flat++) {
            EXPECT.same("place", phone.flat(flat, 5) * 10 + phone.queued(flat), flat * 11);
        }
    }

    /** "7 minutes that it spoke so far (each minute counts in its (a), also of a call that goes on)" */
    static void minutesOfACallThatGoesOn() {
        HallPhone phone = Expect.house("house 0;want 0 3;pass 1;");
        EXPECT.same("just begun", phone.flat(0, 7), 0);
        phone.pass(2);
        EXPECT.same("goes on", phone.flat(0, 7) * 10 + phone.flat(0, 8), 20);
        phone.pass(1);
        EXPECT.same("ended", phone.flat(0, 7) * 10 + phone.flat(0, 8), 31);
        phone.ring(0, 5);
        phone.pass(3);
        EXPECT.same("from outside too", phone.flat(0, 7) * 10 + phone.flat(0, 8), 51);
    }

    /** "8 calls that it ended so far": by themselves, CUT and hung up */
    static void callsThatEnded() {
        HallPhone phone = Expect.house("house 0 0;want 0 3;pass 4;");
        EXPECT.same("by itself", phone.flat(0, 8), 1);
        phone.want(0, 9);
        phone.pass(2);
        phone.hang(0);
        EXPECT.same("hung up", phone.flat(0, 8), 2);
        phone.ring(0, 9);
        phone.set(0, 1);
        phone.want(1, 9);
        phone.pass(2);
        EXPECT.same("CUT", phone.flat(0, 8) * 10 + phone.flat(1, 8), 30);
    }

    /** "9 messages for it on the slate": none, and all eight */
    static void messagesForAFlat() {
        HallPhone phone = quietHouse();
        EXPECT.same("none", phone.flat(2, 9), 0);
        for (int i = 0; i < 9; i++) {
            phone.ring(2, 1);
        }
        EXPECT.same("eight", phone.flat(2, 9) * 10 + phone.flat(1, 9), 80);
    }

    /** "10 minutes that it was QUEUED so far (behind (d) of a minute)": not the one in which it begins to speak */
    static void minutesInTheQueue() {
        HallPhone phone = Expect.house("house 0 0;want 0 3;want 1 9;pass 1;");
        EXPECT.same("at once, and waiting", phone.flat(0, 10) * 10 + phone.flat(1, 10), 1);
        phone.pass(2);
        EXPECT.same("three", phone.flat(1, 10), 3);
        phone.pass(1);
        EXPECT.same("speaks", phone.flat(1, 2) * 10 + phone.flat(1, 10), 33);
    }

    // ---- queued

    /** Promise 8: "NONE if there is none": below the queue, behind it, and of an empty one */
    static void queuedAtNoPlaceIsNone() {
        HallPhone phone = smallHouse();
        EXPECT.same("place 0", phone.queued(0), 1);
        for (int place : new int[] {-1, 1, 2, 9, 10, Integer.MIN_VALUE, Integer.MAX_VALUE}) {
            EXPECT.same("place " + place, phone.queued(place), -1);
        }
        EXPECT.same("an empty queue", quietHouse().queued(0), -1);
    }

    /** The same sentence: behind the last one of a queue that has become shorter */
    static void queuedBehindTheLastOneIsNone() {
        HallPhone phone = Expect.house("house 0 0 0;want 0 3;want 1 9;want 2 9;pass 1;");
        EXPECT.same("two", "" + phone.queued(0) + phone.queued(1) + phone.queued(2), "12-1");
        phone.pass(3);
        EXPECT.same("one", "" + phone.queued(0) + phone.queued(1), "2-1");
        phone.drop(2);
        EXPECT.same("none", phone.queued(0), -1);
    }

    // ---- message

    /** Promise 9: "Throws NoSuchElementException if there is no such message", ahead of the other exception */
    static void messageThatIsNotThereThrows() {
        HallPhone phone = smallHouse();
        Class<java.util.NoSuchElementException> due = java.util.NoSuchElementException.class;
        for (int message : new int[] {-1, 1, 7, 8, Integer.MIN_VALUE, Integer.MAX_VALUE}) {
            EXPECT.thrownAndSame("message(" + message + ", 0)", phone, due, () -> phone.message(message, 0));
            EXPECT.thrownAndSame("message(" + message + ", 2)", phone, due, () -> phone.message(message, 2));
        }
        HallPhone empty = quietHouse();
        EXPECT.thrownAndSame("an empty slate", empty, due, () -> empty.message(0, 0));
    }

    /** The same sentence: the last one of a full slate, and behind it */
    static void messagesOfAFullSlate() {
        HallPhone phone = quietHouse();
        for (int i = 0; i < 9; i++) {
            phone.ring(2, 1);
            phone.pass(1);
        }
        for (int message = 0; message < 8; message++) {
            EXPECT.same("message", phone.message(message, 0) * 10 + phone.message(message, 1), 20 + message);
        }
        EXPECT.noElement("a ninth", () -> phone.message(8, 0));
    }

    /** Promise 9: "Throws IllegalArgumentException if what is out of range" */
    static void messageOfAWrongNumberThrows() {
        HallPhone phone = smallHouse();
        for (int what : new int[] {-1, 2, Integer.MIN_VALUE, Integer.MAX_VALUE}) {
            EXPECT.thrownAndSame("message(0, " + what + ")", phone, ARGUMENT, () -> phone.message(0, what));
        }
        EXPECT.same("0 and 1", phone.message(0, 0) * 10 + phone.message(0, 1), 20);
    }

    // ---- heard, knowing, listening, mostKnown

    /** Promise 10: "throws IndexOutOfBoundsException": of a flat and of an other one */
    static void heardOfNoFlatThrows() {
        HallPhone phone = smallHouse();
        for (int flat : NO_FLAT) {
            EXPECT.thrownAndSame("heard(" + flat + ", 0)", phone, INDEX, () -> phone.heard(flat, 0));
            EXPECT.thrownAndSame("heard(0, " + flat + ")", phone, INDEX, () -> phone.heard(0, flat));
            EXPECT.thrownAndSame("heard twice " + flat, phone, INDEX, () -> phone.heard(flat, flat));
        }
    }

    /** Promise 10: "(0 of itself)": also of a CURIOUS one that speaks */
    static void heardOfItselfIsZero() {
        HallPhone phone = Expect.house("house 0 curious 0 curious;want 0 9;pass 6;");
        EXPECT.same("itself, the other one", phone.heard(0, 0) * 10 + phone.heard(1, 0), 5);
        EXPECT.same("the other way", phone.heard(0, 1), 0);
    }

    /** Promise 11: "throws IndexOutOfBoundsException" */
    static void knowingOfNoFlatThrows() {
        HallPhone phone = smallHouse();
        for (int flat : NO_FLAT) {
            EXPECT.thrownAndSame("knowing(" + flat + ")", phone, INDEX, () -> phone.knowing(flat));
        }
    }

    /** Promise 11: "that heard it for SECRET minutes or more": not one minute less */
    static void aSecretTakesItsMinutes() {
        HallPhone phone = Expect.house("house 0 0 curious;want 0 99;pass 5;");
        EXPECT.same("4 minutes", phone.heard(1, 0) * 10 + phone.knowing(0), 40);
        phone.pass(1);
        EXPECT.same("5 minutes", phone.heard(1, 0) * 10 + phone.knowing(0), 52);
        phone.set(4, 6);
        EXPECT.same("SECRET 6", phone.knowing(0), 0);
        phone.set(4, 1);
        EXPECT.same("SECRET 1", phone.knowing(0) * 10 + phone.knowing(1), 20);
        phone.set(4, 99);
        phone.pass(94);
        EXPECT.same("SECRET 99, 99 minutes", phone.heard(1, 0) * 10 + phone.knowing(0), 992);
    }

    /** Promise 12: "throws IndexOutOfBoundsException" */
    static void listeningOfNoFlatThrows() {
        HallPhone phone = smallHouse();
        for (int flat : NO_FLAT) {
            EXPECT.thrownAndSame("listening(" + flat + ")", phone, INDEX, () -> phone.listening(flat));
        }
    }

    /** Promise 12: "(HOME and CURIOUS ..)" */
    static void whoListensIsHomeAndCurious() {
        HallPhone phone = Expect.house("house 0 curious 0 curious 0 curious 0 curious 0;want 0 50;pass 1;want 1 9;pass 1;"
                + "want 2 9;");
        EXPECT.same("SPEAKING, QUEUED, COMING, HOME, not CURIOUS", phone.listening(4), 8);
        phone.setCurious(3, false);
        EXPECT.same("nobody", phone.listening(4), 0);
    }

    /** Promise 12: "with a FLOOR of EAR at most" */
    static void whoListensLivesAtTheEarAtMost() {
        HallPhone phone = Expect.house("house 0 4 curious 5 curious 6 curious;ear 5;");
        EXPECT.same("EAR 5", phone.listening(0), 6);
        phone.set(3, 9);
        EXPECT.same("EAR 9", phone.listening(0), 14);
        phone.set(3, 0);
        EXPECT.same("EAR 0", phone.listening(0), 0);
    }

    /** Promise 12: "without the flat itself" */
    static void aFlatDoesNotListenToItself() {
        HallPhone phone = Expect.house("house 0 curious 0 curious 0 curious;");
        EXPECT.same("sets", phone.listening(0) * 100 + phone.listening(1) * 10 + phone.listening(2), 653);
        EXPECT.same("one alone", Expect.house("house 0 curious;").listening(0), 0);
    }

    /** Section 5: "Sets of flats are told as the sum of 2 to the power of each": of ten flats */
    static void setsOfTenFlats() {
        String ten = "house 0 curious" + " 0 curious".repeat(9) + ";secret 1;";
        HallPhone phone = Expect.house(ten + "want 0 9;pass 2;");
        EXPECT.same("all but 0", phone.knowing(0), 1022);
        EXPECT.same("all that listen", phone.listening(0) * 10000 + phone.listening(9), 10220510);
        phone = Expect.house(ten + "want 9 9;pass 2;");
        EXPECT.same("all but 9", phone.knowing(9), 511);
        EXPECT.same("all that listen", phone.listening(9) * 10000 + phone.listening(0), 5110510);
    }

    /** Promise 13: "NONE if no secret is known": heard, but not long enough */
    static void mostKnownOfNobodyIsNone() {
        EXPECT.same("nothing heard", quietHouse().mostKnown(), -1);
        HallPhone phone = Expect.house("house 0 0 curious;want 0 99;pass 5;");
        EXPECT.same("4 minutes", phone.mostKnown(), -1);
        phone.pass(1);
        EXPECT.same("5 minutes", phone.mostKnown(), 0);
    }

    /** Promise 13: "of several the least one" */
    static void mostKnownOfSeveralIsTheLeast() {
        HallPhone phone = Expect.house("house 0 0 curious 0;secret 1;want 2 1;pass 2;");
        EXPECT.same("2 alone", phone.mostKnown(), 2);
        phone.want(0, 1);
        phone.pass(2);
        EXPECT.same("0 and 2", phone.mostKnown(), 0);
    }

    /** Promise 13: "of which the most flats know the secret": not the one that was heard the longest */
    static void mostKnownCountsFlats() {
        HallPhone phone = Expect.house("house 0 0 curious 0 0;secret 1;want 0 50;pass 51;");
        phone.setCurious(3, true);
        phone.want(2, 1);
        phone.pass(2);
        EXPECT.same("two know 2", phone.mostKnown(), 2);
    }

    // ---- cost

    /** Promise 14: "minutes: 1 to 99", "Throws IllegalArgumentException if minutes is out of range" */
    static void costOfWrongMinutesThrows() {
        HallPhone phone = smallHouse();
        for (int minutes : new int[] {0, 100, -1, Integer.MIN_VALUE, Integer.MAX_VALUE}) {
            EXPECT.thrownAndSame("cost(" + minutes + ")", phone, ARGUMENT, () -> phone.cost(minutes));
        }
        EXPECT.same("1 and 99", phone.cost(1) * 1000 + phone.cost(99), 4132);
    }

    /** Section 2 (c) for cost(): "SPOKEN divided by UNIT, rounded up" with every UNIT */
    static void costRoundsUp() {
        HallPhone phone = Expect.house("house 0;rate 1;");
        for (int unit = 1; unit <= 30; unit++) {
            phone.set(1, unit);
            EXPECT.same("one UNIT", phone.cost(unit), 1);
            EXPECT.same("a minute more", phone.cost(unit + 1), 2);
            EXPECT.same("two UNITS", phone.cost(2 * unit), 2);
            EXPECT.same("a minute", phone.cost(1), 1);
        }
    }
}
