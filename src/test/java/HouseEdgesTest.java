/** The edges that the document's beginning and section 1 name: a case for each sentence. */
public final class HouseEdgesTest {
    private static final Expect EXPECT = new Expect();
    private static final String[] WORDS = {"limit", "unit", "rate", "ear", "secret", "patience"};

    public static void main(String[] args) {
        EXPECT.runCases(HouseEdgesTest.class);
    }

    /** "An object is used for at most 512 calls after it has been made" */
    static void theLastOf512CallsIsRight() {
        HallPhone phone = new HallPhone();
        for (int call = 1; call <= 510; call++) {
            phone.pass(999);
        }
        EXPECT.same("call 511", phone.undo(), 7);
        EXPECT.same("call 512", phone.account(0), 3 + 509 * 999);
    }

    /** "The constants: NONE = -1" */
    static void noneIsOneBelowZero() {
        EXPECT.same("NONE", HallPhone.NONE, -1);
    }

    /** "The house has 1 to 10 flats": none is too few. */
    static void noFlatIsTooFew() {
        EXPECT.textError("house;", 5, 1);
        EXPECT.textError("house ;", 6, 1);
    }

    /** "The house has 1 to 10 flats": one is enough. */
    static void oneFlatIsEnough() {
        HallPhone phone = Expect.house("house 4;");
        EXPECT.same("flats", phone.size(0), 1);
        EXPECT.same("flat 0", phone.flat(0, 0), 4);
        EXPECT.index("flat 1", () -> phone.flat(1, 0));
    }

    /** "The house has 1 to 10 flats": all ten take part. */
    static void tenFlatsFit() {
        HallPhone phone = Expect.house("house 0 0 0 0 0 0 0 0 0 0;");
        EXPECT.same("flats", phone.size(0), 10);
        for (int flat = 9; flat >= 0; flat--) {
            phone.want(flat, 2);
        }
        EXPECT.same("all ten are COMING", phone.size(8), 10);
        phone.pass(1);
        EXPECT.same("nine are QUEUED", Expect.houseOf(phone), "0!2 1#0 2#1 3#2 4#3 5#4 6#5 7#6 8#7 9#8");
        EXPECT.same("all calls end", phone.pass(20), 10);
        EXPECT.index("flat 10", () -> phone.flat(10, 0));
    }

    /** "The house has 1 to 10 flats": eleven are too many. */
    static void elevenFlatsAreTooMany() {
        EXPECT.textError("house 0 0 0 0 0 0 0 0 0 0 0;", 26, 3);
    }

    /** "numbered from 0" */
    static void flatsAreNumberedFromZero() {
        HallPhone phone = Expect.house("house 7 8;");
        EXPECT.same("floors", phone.flat(0, 0) * 10 + phone.flat(1, 0), 78);
        EXPECT.index("flat -1", () -> phone.flat(-1, 0));
        EXPECT.index("flat 2", () -> phone.flat(2, 0));
    }

    /** "each on a FLOOR (0 to 9)" */
    static void floorsGoFromZeroToNine() {
        HallPhone phone = Expect.house("house 0 9;");
        EXPECT.same("least", phone.flat(0, 0), 0);
        EXPECT.same("greatest", phone.flat(1, 0), 9);
        EXPECT.textError("house 10;", 6, 2);
        EXPECT.textError("house 0 9999;", 8, 2);
    }

    /** "CURIOUS or not (not at first), with a DEBT (0 at first)", "HOME (0, at first)" */
    static void aFlatIsHomeWithoutDebtAtFirst() {
        HallPhone phone = Expect.house("house 5 6 curious;");
        for (int what = 1; what <= 10; what++) {
            EXPECT.same("flat(0, " + what + ")", phone.flat(0, what), what == 5 ? -1 : 0);
        }
        EXPECT.same("curious", phone.flat(1, 1), 1);
    }

    /** "the minutes that were heard of it (0 at first)" */
    static void nothingIsHeardAtFirst() {
        HallPhone phone = Expect.house("house 0 curious 0 curious 0 curious;");
        for (int flat = 0; flat < 3; flat++) {
            for (int other = 0; other < 3; other++) {
                EXPECT.same("heard", phone.heard(flat, other), 0);
            }
        }
    }

    /** "COMING (1; with STEPS, the minutes till it is in the hall)": the last step leads into the hall. */
    static void noStepIsLeftInTheHall() {
        HallPhone phone = Expect.house("house 1 0;want 1 9;pass 1;want 0 5;pass 1;");
        EXPECT.same("one step", phone.flat(0, 2) * 10 + phone.flat(0, 3), 11);
        phone.pass(1);
        EXPECT.same("in the hall", phone.flat(0, 2) * 10 + phone.flat(0, 3), 20);
    }

    /** "One that is COMING or QUEUED has a WISH" */
    static void aWishLastsTillTheCall() {
        HallPhone phone = Expect.house("house 0 0;want 0 3;pass 1;want 1 99;");
        EXPECT.same("COMING", phone.flat(1, 4), 99);
        phone.pass(1);
        EXPECT.same("QUEUED", phone.flat(1, 4), 99);
        phone.pass(2);
        EXPECT.same("SPEAKING", phone.flat(1, 2) * 10 + phone.flat(1, 4), 30);
        EXPECT.same("HOME", phone.flat(0, 4), 0);
    }

    /** "WISH (.. 0 for one that comes to a call from outside)" */
    static void aCalledFlatHasNoWish() {
        HallPhone phone = Expect.house("house 3;ring 0 99;");
        EXPECT.same("COMING without a WISH", phone.flat(0, 2) * 10 + phone.flat(0, 4), 10);
    }

    /** "The telephone is FREE (0), HELD (1) .. or BUSY (2) as long as a flat is SPEAKING; then it has SPOKEN and LEFT" */
    static void onlyABusyTelephoneHasSpokenAndLeft() {
        HallPhone phone = Expect.house("house 1;");
        EXPECT.same("FREE", phone.size(2) + " " + phone.size(3) + " " + phone.size(4) + " " + phone.size(5), "0 -1 0 0");
        phone.ring(0, 2);
        EXPECT.same("HELD", phone.size(2) + " " + phone.size(3) + " " + phone.size(4) + " " + phone.size(5), "1 0 0 0");
        phone.pass(3);
        EXPECT.same("BUSY", phone.size(2) + " " + phone.size(3) + " " + phone.size(4) + " " + phone.size(5), "2 0 1 1");
        phone.pass(1);
        EXPECT.same("FREE", phone.size(2) + " " + phone.size(3) + " " + phone.size(4) + " " + phone.size(5), "0 -1 0 0");
    }

    /** "It is told whether the call (also one for which it is HELD) came from outside." */
    static void aHeldCallIsFromOutside() {
        HallPhone phone = Expect.house("house 1 0;");
        EXPECT.same("FREE", phone.size(6), 0);
        phone.ring(0, 2);
        EXPECT.same("HELD", phone.size(6), 1);
        phone.pass(2);
        EXPECT.same("BUSY", phone.size(6), 1);
        phone.pass(2);
        EXPECT.same("FREE again", phone.size(6), 0);
        phone.want(1, 2);
        phone.pass(1);
        EXPECT.same("a call of its own", phone.size(2) * 10 + phone.size(6), 20);
    }

    /** "LIMIT (.. 0 at first ..), UNIT (.. 3 at first), RATE (.. 4 ..), EAR (.. 1 ..), SECRET (.. 5 ..), PATIENCE (.. 3 ..)" */
    static void settingsAtFirst() {
        HallPhone phone = Expect.house("house 0;");
        int[] first = {0, 3, 4, 1, 5, 3};
        for (int which = 0; which < 6; which++) {
            EXPECT.same(WORDS[which], phone.setting(which), first[which]);
        }
    }

    private static void range(int which, int least, int greatest) {
        HallPhone phone = Expect.house("house 0;");
        phone.set(which, least);
        EXPECT.same("least " + WORDS[which], phone.setting(which), least);
        phone.set(which, greatest);
        EXPECT.same("greatest " + WORDS[which], phone.setting(which), greatest);
        Class<IllegalArgumentException> due = IllegalArgumentException.class;
        EXPECT.thrownAndSame("a smaller one", phone, due, () -> phone.set(which, least - 1));
        EXPECT.thrownAndSame("a greater one", phone, due, () -> phone.set(which, greatest + 1));
        String start = "house 0;" + WORDS[which] + " ";
        EXPECT.same("least in a text", Expect.house(start + least + ";").setting(which), least);
        EXPECT.same("greatest in a text", Expect.house(start + greatest + ";").setting(which), greatest);
        EXPECT.textError(start + (greatest + 1) + ";", start.length(), 2);
        if (least > 0) {
            EXPECT.textError(start + (least - 1) + ";", start.length(), 2);
        }
    }

    /** "LIMIT (0 to 60 ..)" */
    static void rangeOfLimit() {
        range(0, 0, 60);
    }

    /** "UNIT (1 to 30 minutes ..)" */
    static void rangeOfUnit() {
        range(1, 1, 30);
    }

    /** "RATE (0 to 99 pence ..)" */
    static void rangeOfRate() {
        range(2, 0, 99);
    }

    /** "EAR (0 to 9 ..)" */
    static void rangeOfEar() {
        range(3, 0, 9);
    }

    /** "SECRET (1 to 99 minutes ..)" */
    static void rangeOfSecret() {
        range(4, 1, 99);
    }

    /** "PATIENCE (0 to 20 minutes ..)" */
    static void rangeOfPatience() {
        range(5, 0, 20);
    }

    /** "LIMIT (.. 0 at first: none)" */
    static void limitZeroIsNone() {
        HallPhone phone = Expect.house("house 0 0;limit 0;want 0 99;want 1 9;pass 99;");
        EXPECT.same("nobody is CUT", phone.size(3) * 100 + phone.size(4), 98);
        EXPECT.same("by itself", phone.pass(1) * 10 + phone.account(2), 10);
    }

    /** "The slate has at most 8 messages" */
    static void theSlateHoldsEight() {
        HallPhone phone = Expect.house("house 9;patience 0;");
        for (int count = 1; count <= 8; count++) {
            EXPECT.same("message " + count, phone.ring(0, 1) * 10 + phone.size(9), 20 + count);
        }
        EXPECT.same("a ninth is LOST", phone.ring(0, 1) * 10 + phone.size(9), 38);
        EXPECT.same("written and LOST", phone.account(6) * 10 + phone.account(8), 81);
    }

    /** "in the order in which they were written" */
    static void messagesKeepTheirOrder() {
        HallPhone phone = Expect.house("house 9 5 8;");
        phone.ring(2, 1);
        phone.pass(1);
        phone.ring(0, 1);
        phone.ring(2, 1);
        phone.pass(1);
        phone.ring(1, 1);
        EXPECT.same("slate", Expect.slateOf(phone), "2@0 0@1 2@1 1@2");
        phone.want(2, 1);
        phone.pass(9);
        phone.hang(2);
        phone.ring(2, 1);
        EXPECT.same("one more behind those that stay", Expect.slateOf(phone), "0@1 1@2 2@11");
    }
}
