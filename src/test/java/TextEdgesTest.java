/** The edges that section 4, texts, and promises 1 to 4 name: a case for each sentence. */
public final class TextEdgesTest {
    private static final Expect EXPECT = new Expect();
    private static final String TEN = "house 0 0 0 0 0 0 0 0 0 0 ";

    public static void main(String[] args) {
        EXPECT.runCases(TextEdgesTest.class);
    }

    private static void error(String text, int offset, int code) {
        EXPECT.textError(text, offset, code);
    }

    private static void right(String text, int flats) {
        EXPECT.textRight(text, flats);
    }

    private static String spaces(int count) {
        return " ".repeat(count);
    }

    private static void fill(HallPhone phone) {
        for (int i = 0; i < 35; i++) {
            phone.append(0, 0, 0, 0, 0);
        }
    }

    // ---- the buffer

    /** "The input buffer holds at most 700 bytes"; promise 2: "NONE, with nothing appended, if it would exceed 700" */
    static void theBufferHoldsSevenHundred() {
        HallPhone phone = new HallPhone();
        for (int length = 20; length <= 700; length += 20) {
            EXPECT.same("append", phone.append(1, 2, 3, 4, 5), length);
        }
        for (int i = 0; i < 3; i++) {
            EXPECT.same("append above 700", phone.append(1, 2, 3, 4, 5), -1);
            EXPECT.same("length", phone.size(12), 700);
        }
    }

    /** The same sentence: what is refused leaves the bytes as they are. */
    static void aFullBufferKeepsItsBytes() {
        HallPhone phone = new HallPhone();
        Expect.type(phone, "house 3;" + spaces(672) + "limit 9; unit 8;    ");
        EXPECT.same("full", phone.append(-1, -1, -1, -1, -1), -1);
        EXPECT.same("parse(700)", phone.parse(700), 1);
        EXPECT.same("settings", phone.setting(0) * 10 + phone.setting(1), 98);
        EXPECT.same("empty", phone.size(12), 0);
        EXPECT.same("append into the empty one", phone.append(0, 0, 0, 0, 0), 20);
    }

    /** "the four bytes of each argument, the most significant byte first": each byte at its place */
    static void eachByteStandsAtItsPlace() {
        for (int at = 0; at < 20; at++) {
            HallPhone phone = new HallPhone();
            StringBuilder text = new StringBuilder(spaces(20));
            text.setCharAt(at, '#');
            Expect.type(phone, text.toString());
            EXPECT.same("byte " + at, phone.parse(20), -2 - (8 * at + 1));
        }
    }

    /** The same sentence: bytes above 127, in arguments below 0 */
    static void bytesAboveTheLetters() {
        HallPhone phone = new HallPhone();
        for (int high : new int[] {0x80, 0xff, 0xa0, 0xbb, 0xe8}) {
            phone.append(high << 24 | 0x202020, high << 16, 0, 0, 0);
            EXPECT.same("byte " + high, phone.parse(4), -2 - 1);
            phone.append(0x20202000 | high, 0, 0, 0, 0);
            EXPECT.same("byte " + high, phone.parse(4), -2 - (8 * 3 + 1));
        }
    }

    // ---- tokens

    /** "The bytes 32 and 10 separate tokens and are otherwise ignored." */
    static void spacesAndNewLinesSeparate() {
        right(" \n house \n 1 \n 2 \n curious \n ; \n limit \n 6 \n ; \n ", 2);
        right("house\n1\n2;", 2);
        right("house 1;" + spaces(692), 1);
        right(spaces(692) + "house 1;", 1);
        EXPECT.same("two numbers", Expect.house("house 1 2;").size(0), 2);
    }

    /** The same sentence: between a word, a number and a semicolon none is needed. */
    static void tokensNeedNoSpaceBetween() {
        right("house1curious2;limit6;want1 99;", 2);
        HallPhone phone = Expect.house("house9 9curious;pass9;rate7;");
        EXPECT.same("time and rate", phone.size(1) * 10 + phone.setting(2), 97);
    }

    /** "and any other byte are invalid tokens": all other bytes */
    static void anyOtherByteIsInvalid() {
        for (int other = 0; other < 256; other++) {
            boolean isAllowed = other == 32 || other == 10 || other == ';' || other >= 'a' && other <= 'z'
                    || other >= '0' && other <= '9';
            if (!isAllowed) {
                error("house 1;" + (char) other, 8, 1);
            }
        }
    }

    /** The same sentence: beside a letter and a digit, which it ends */
    static void anInvalidByteEndsAToken() {
        for (char other : new char[] {'A', 'Z', '@', '[', '`', '{', '/', ':', '<', '\t', '\r', '\0', '\u00e9'}) {
            error("house" + other + " 1;", 5, 1);
            error("house 1" + other + ";", 7, 1);
        }
        error("Ahouse 1;", 0, 1);
    }

    /** "a maximal run of the letters a to z (a word)": part of a word is none, nor are two of them */
    static void wordsAreMaximalRuns() {
        error("hous 1;", 0, 1);
        error("houses 1;", 0, 1);
        error("hou se 1;", 0, 1);
        error("mouse 1;", 0, 1);
        error("housea 1;", 0, 1);
        error("housez 1;", 0, 1);
        error("housecurious 1;", 0, 1);
        error("house 1 curiou;", 8, 1);
        error("house 1 curiouss;", 8, 1);
        error("house 1;limi 1;", 8, 1);
        error("house 1;limits 1;", 8, 1);
        error("house 1;z;", 8, 1);
        error("house 1;a;", 8, 1);
    }

    /** "a maximal run of digits (a number, of 1 to 4 digits)" */
    static void numbersHaveUpToFourDigits() {
        right("house 9;", 1);
        right("house 09;", 1);
        right("house 009;", 1);
        right("house 0009;", 1);
        EXPECT.same("0099", Expect.house("house 0000;secret 0099;").setting(4), 99);
    }

    /** "A longer run of digits": 5 digits, and as many as the text has room for */
    static void longerRunsOfDigitsAreInvalid() {
        error("house 00009;", 6, 1);
        error("house 1;pass 00009;", 13, 1);
        error("house 1;limit 4294967302;", 14, 1);
        error("house 1;limit 18446744073709551622;", 14, 1);
        error("house " + "0".repeat(600) + "1;", 6, 1);
        error("house 1 2 00003;", 10, 1);
    }

    // ---- the grammar

    /** text = "house" flat { flat } ";" { statement ";" }: no statement is needed */
    static void aTextNeedsNoStatement() {
        HallPhone phone = Expect.house("house 5;");
        EXPECT.same("at first", Expect.houseOf(phone) + " " + phone.size(1), "0. 0");
    }

    /** The same line: it begins with "house", which comes once */
    static void aTextBeginsWithHouse() {
        error("1;", 0, 1);
        error(";", 0, 1);
        error("limit 1;", 0, 1);
        error("curious 1;", 0, 1);
        error("house house 1;", 6, 1);
        error("house 1;house 1;", 8, 1);
    }

    /** The same line: a semicolon stands behind the flats and behind each statement, once */
    static void semicolonsStandWhereTheyBelong() {
        error("house 1 limit 1;", 8, 1);
        error("house 1;limit 1 unit 1;", 16, 1);
        error("house 1;;", 8, 1);
        error("house 1;limit 1;;", 16, 1);
        error("house;1;", 5, 1);
        error("house 1;limit;1;", 13, 1);
    }

    /** flat = FLOOR [ "curious" ]: it stands behind a FLOOR, once */
    static void curiousStandsOnceBehindAFloor() {
        error("house curious 1;", 6, 1);
        error("house 1 curious curious;", 16, 1);
        HallPhone phone = Expect.house("house 1 curious 2 3 curious;");
        EXPECT.same("curious", "" + phone.flat(0, 1) + phone.flat(1, 1) + phone.flat(2, 1), "101");
        right(TEN + "curious;", 10);
        error(TEN + "curious curious;", 34, 1);
    }

    /** statement: the words that take a flat and a number */
    static void statementsOfAFlatAndANumber() {
        for (String word : new String[] {"want", "ring", "pay"}) {
            String start = "house 0;" + word;
            error(start + ";", start.length(), 1);
            error(start + " 0;", start.length() + 2, 1);
            error(start + " x 1;", start.length() + 1, 1);
            error(start + " 0 x;", start.length() + 3, 1);
            error(start + " 0 1 1;", start.length() + 5, 1);
        }
    }

    /** statement: the words that take a flat alone */
    static void statementsOfAFlat() {
        for (String word : new String[] {"drop", "hang"}) {
            String start = "house 0;" + word;
            error(start + ";", start.length(), 1);
            error(start + " x;", start.length() + 1, 1);
            error(start + " 0 1;", start.length() + 3, 1);
        }
    }

    /** statement: the words that take a number alone */
    static void statementsOfANumber() {
        for (String word : new String[] {"limit", "unit", "rate", "ear", "secret", "patience", "pass"}) {
            String start = "house 0;" + word;
            right(start + " 1;", 1);
            error(start + ";", start.length(), 1);
            error(start + " x;", start.length() + 1, 1);
            error(start + " 1 1;", start.length() + 3, 1);
        }
    }

    /** "FLAT": 0 to the number of flats less one */
    static void flatsOfStatements() {
        for (String word : new String[] {"want", "ring", "pay", "drop", "hang"}) {
            String start = "house 0 0 0;" + word + " ";
            error(start + "3 1;", start.length(), 2);
            error(start + "9999 1;", start.length(), 2);
        }
        right("house 0 0 0;want 2 1;drop 2;", 3);
        right(TEN + ";want 9 1;drop 9;", 10);
        error(TEN + ";want 10 1;", 32, 2);
    }

    /** "want" and "ring" take 1 to 99 minutes. */
    static void minutesOfStatements() {
        for (String word : new String[] {"want", "ring"}) {
            String start = "house 0;" + word + " 0 ";
            error(start + "0;", start.length(), 2);
            error(start + "100;", start.length(), 2);
            right(start + "1;", 1);
            right(start + "99;", 1);
        }
    }

    /** "\"pass\" lets N minutes pass (1 to 999)" */
    static void minutesOfPass() {
        error("house 0;pass 0;", 13, 2);
        error("house 0;pass 1000;", 13, 2);
        EXPECT.same("1", Expect.house("house 0;pass 1;").size(1), 1);
        EXPECT.same("999", Expect.house("house 0;pass 999;").size(1), 999);
    }

    /** "N of \"pay\" is 1 to 9999" */
    static void amountsOfPay() {
        String start = "house 0;unit 1;rate 99;want 0 99;pass 100;want 0 99;pass 100;pay 0 ";
        error(start + "0;", start.length(), 2);
        EXPECT.same("1", Expect.house(start + "1;").flat(0, 6), 19601);
        EXPECT.same("9999", Expect.house(start + "9999;").flat(0, 6), 9603);
        error(start + "10000;", start.length(), 1);
    }

    /** "The statements are done one after the other." */
    static void statementsAreDoneInTheirOrder() {
        HallPhone phone = Expect.house("house 0;want 0 9;pass 3;limit 4;hang 0;pay 0 3;pay 0 1;unit 1;want 0 2;drop 0;");
        EXPECT.same("deeds", phone.flat(0, 2) + " " + phone.flat(0, 6) + " " + phone.account(5) + " " + phone.size(1),
                "0 0 4 3");
    }

    /** The same sentence: as many statements as a text of 700 bytes can have */
    static void aTextFullOfStatements() {
        HallPhone phone = Expect.house("house 0;" + "ear 1;".repeat(115));
        EXPECT.same("the last one is done", phone.setting(3), 1);
        phone = Expect.house("house 0;" + "pass 999;".repeat(76));
        EXPECT.same("minutes", phone.size(1), 76 * 999);
        error("house 0;" + "ear 1;".repeat(114) + "ear 10;", 8 + 6 * 114 + 4, 2);
    }

    // ---- errors

    /** "1 .. the text ends too early": "it is the number of bytes of the text", behind each token */
    static void textsThatEndTooEarly() {
        error("", 0, 1);
        String text = "house 1 curious 2;limit 6;want 1 99;drop 1;";
        for (int length = 1; length < text.length(); length++) {
            char last = text.charAt(length - 1);
            if (last == ' ' || last == '1' && text.charAt(length - 2) == ' ') {
                error(text.substring(0, length), length, 1);
                error(text.substring(0, length) + " \n ", length + 3, 1);
            }
        }
        error("house", 5, 1);
        error("house ", 6, 1);
        error("house 1;want 0 5", 16, 1);
        right("house 1;want 0 5;", 1);
    }

    /** The same sentence: the text has the bytes of parse(bytes), not those of the buffer. */
    static void theTextEndsWithItsBytes() {
        HallPhone phone = new HallPhone();
        String text = "house 1 2;limit 6;";
        for (int bytes = 0; bytes < 10; bytes++) {
            Expect.type(phone, text);
            int offset = bytes > 0 && bytes < 5 ? 0 : bytes;
            EXPECT.same("parse(" + bytes + ")", phone.parse(bytes), -2 - (8 * offset + 1));
        }
        Expect.type(phone, text);
        EXPECT.same("parse(10)", phone.parse(10) * 100 + phone.setting(0), 200);
        Expect.type(phone, text);
        EXPECT.same("parse(18)", phone.parse(18) * 100 + phone.setting(0), 206);
        Expect.type(phone, "house 12;");
        EXPECT.same("a cut number", phone.parse(7), -2 - (8 * 7 + 1));
        Expect.type(phone, "house 1;limit 66;");
        EXPECT.same("a cut number", phone.parse(15), -2 - (8 * 15 + 1));
        Expect.type(phone, "house 1;pass 99999;");
        EXPECT.same("a cut number", phone.parse(16), -2 - (8 * 16 + 1));
        Expect.type(phone, "house 1;limits 6;");
        EXPECT.same("a cut word", phone.parse(13), -2 - (8 * 13 + 1));
    }

    /** "2 a number that is out of its range": the first token of it is told */
    static void numbersOutOfTheirRange() {
        error("house 10;", 6, 2);
        error("house 0 10;", 8, 2);
        error("house 0;limit 61;", 14, 2);
        error("house 0;unit 0;", 13, 2);
        error("house 0;unit 31;", 13, 2);
        error("house 0;rate 100;", 13, 2);
        error("house 0;ear 10;", 12, 2);
        error("house 0;secret 0;", 15, 2);
        error("house 0;secret 100;", 15, 2);
        error("house 0;patience 21;", 17, 2);
    }

    /** "3 the FLOOR of an 11th flat": also of one that is CURIOUS, and not of a 12th */
    static void theFloorOfAnEleventhFlat() {
        error(TEN + "9;", 26, 3);
        error(TEN + "curious 9 curious;", 34, 3);
        error(TEN + "0 0 0;", 26, 3);
        error(TEN + "0", 26, 3);
        right(TEN + ";", 10);
    }

    /** "4 the semicolon behind a deed that is refused": each deed with its reason */
    static void theSemicolonBehindARefusedDeed() {
        error("house 0;want 0 5;want 0 5 ;", 26, 4);
        error("house 0;drop 0;", 14, 4);
        error("house 0;want 0 5;pass 1;drop 0;", 30, 4);
        error("house 0;ring 0 5;drop 0;", 23, 4);
        error("house 0;hang 0\n\n;", 16, 4);
        error("house 0;want 0 5;ring 0 5;pass 1;ring 0 5;", 41, 4);
        error("house 0;ring 0 5;ring 0 5;", 25, 4);
        error("house 0;pay 0 1;", 15, 4);
        error("house 0;want 0 1;pass 2;pay 0 5;", 31, 4);
    }

    /** The same sentence: a LOST call is not refused. */
    static void aLostCallIsNoError() {
        HallPhone phone = Expect.house("house 9;" + "ring 0 1;".repeat(9));
        EXPECT.same("LOST", phone.account(8), 1);
    }

    /** The same sentence: without its semicolon a deed is not done. */
    static void aRefusedDeedWithoutItsSemicolon() {
        error("house 0;drop 0", 14, 1);
        error("house 0;drop 0 drop 0;", 15, 1);
        error("house 0;drop 0 00000;", 15, 1);
    }

    /** "The error with the smallest offset is reported" */
    static void theFirstErrorIsReported() {
        error("house 0;limit 61;drop 0;#", 14, 2);
        error("house 0;drop 0;limit 61;#", 14, 4);
        error("house 0;#limit 61;drop 0;", 8, 1);
        error("house 10 #;", 6, 2);
        error("house 0;want 1 100;", 13, 2);
        error("house 0;want 1 x;", 13, 2);
        error("house 0;want 0 100", 15, 2);
    }

    /** "with the smallest code of several at one offset" */
    static void theSmallestCodeIsReported() {
        error(TEN + "10;", 26, 2);
        error(TEN + "9999;", 26, 2);
        error(TEN + "00000;", 26, 1);
        error(TEN + "9;", 26, 3);
    }

    /** "The offset is the index of the first byte of the token": the greatest one */
    static void theGreatestOffset() {
        error("house 1;" + spaces(691) + "#", 699, 1);
        error("house 1" + spaces(693), 700, 1);
        error("house 1;" + spaces(683) + "drop 0; #", 697, 4);
        error("house 1;" + spaces(672) + "limit" + spaces(11) + "9999", 696, 2);
    }

    // ---- promises 1, 3 and 4

    /** Promise 1: "an empty buffer, an empty report and no snapshots" */
    static void aNewObjectIsEmpty() {
        HallPhone phone = new HallPhone();
        EXPECT.same("buffer, report, changes", "" + phone.size(12) + phone.size(13) + phone.size(11), "000");
        EXPECT.same("parse(0)", phone.parse(0), -3);
        EXPECT.argument("parse(1)", () -> phone.parse(1));
        EXPECT.same("report", phone.reportAt(0), '\0');
        EXPECT.same("undo", phone.undo(), -1);
        EXPECT.noElement("snapshot 0", () -> phone.restoreSnapshot(0));
        EXPECT.noElement("snapshot 1", () -> phone.restoreSnapshot(1));
    }

    /** Promise 1: "a house with the built-in text 0": two objects share nothing */
    static void objectsAreApart() {
        HallPhone one = new HallPhone();
        HallPhone other = new HallPhone();
        long before = other.checksum();
        one.load(2);
        one.append(1, 2, 3, 4, 5);
        one.writeHouse();
        one.saveSnapshot(0);
        one.set(0, 5);
        EXPECT.same("the other one", other.checksum(), before);
        EXPECT.same("its buffer, report, changes", "" + other.size(12) + other.size(13) + other.size(11), "000");
        EXPECT.noElement("its snapshot", () -> other.restoreSnapshot(0));
    }

    /** Promise 3: "bytes: 0 to the length of the buffer", "the buffer stays then" */
    static void parseOfWrongBytesThrows() {
        HallPhone phone = new HallPhone();
        Class<IllegalArgumentException> due = IllegalArgumentException.class;
        int[] wrong = {1, 20, 700, 701, -1, Integer.MIN_VALUE, Integer.MAX_VALUE};
        for (int bytes : wrong) {
            EXPECT.thrownAndSame("parse(" + bytes + ")", phone, due, () -> phone.parse(bytes));
        }
        Expect.type(phone, "house 1 2 3;");
        EXPECT.thrownAndSame("parse(21)", phone, due, () -> phone.parse(21));
        EXPECT.thrownAndSame("parse(-1)", phone, due, () -> phone.parse(-1));
        EXPECT.same("parse(12)", phone.parse(12), 3);
        fill(phone);
        EXPECT.thrownAndSame("parse(701)", phone, due, () -> phone.parse(701));
        EXPECT.same("parse(700)", phone.parse(700), -3);
    }

    /** Promise 3: "which replaces everything: TIME and all accounts are 0 ahead of its statements" */
    static void parseReplacesEverything() {
        HallPhone phone = Expect.house("house 9 curious 0 0 0;limit 9;patience 0;ring 0 1;want 1 9;pass 5;want 2 9;pass 2;");
        phone.ring(0, 1);
        Expect.parsed(phone, "house 3 4 5;");
        EXPECT.same("as a new one", phone.checksum(), Expect.house("house 3 4 5;").checksum());
        for (int what = 0; what <= 10; what++) {
            EXPECT.same("account " + what, phone.account(what), 0);
        }
        EXPECT.same("mean", phone.meanCall(), 0.0);
        Expect.parsed(phone, "house 0;want 0 50;pass 60;want 0 3;pass 4;");
        EXPECT.same("mean of two", phone.meanCall(), 26.5);
        Expect.parsed(phone, "house 0;want 0 3;pass 4;");
        EXPECT.same("mean of one", phone.meanCall(), 3.0);
        Expect.parsed(phone, "house 0 0;want 0 9;pass 3;");
        EXPECT.same("statements begin at TIME 0", phone.account(0) * 10 + phone.account(3), 32);
    }

    /** Promise 3: "nothing can be undone then, and both snapshots are gone. The report stays." */
    static void parseEndsUndoAndSnapshots() {
        HallPhone phone = new HallPhone();
        phone.set(0, 1);
        phone.saveSnapshot(0);
        phone.saveSnapshot(1);
        phone.writeSlate();
        Expect.parsed(phone, "house 1;");
        EXPECT.same("changes", phone.size(11), 0);
        EXPECT.same("undo", phone.undo(), -1);
        EXPECT.noElement("snapshot 0", () -> phone.restoreSnapshot(0));
        EXPECT.noElement("snapshot 1", () -> phone.restoreSnapshot(1));
        EXPECT.same("no earlier one", phone.saveSnapshot(0), false);
        EXPECT.same("report", Expect.report(phone), "4@0");
    }

    /** Promise 3: "The buffer is empty afterwards, also after an error, by which nothing else changes." */
    static void anErrorChangesNothingElse() {
        HallPhone phone = new HallPhone();
        phone.saveSnapshot(0);
        phone.pass(4);
        phone.saveSnapshot(1);
        phone.writeHouse();
        String before = Expect.all(phone);
        Expect.type(phone, "house 1 1;unit 9;pass 9;hang 1;");
        EXPECT.same("parse", phone.parse(31), -2 - (8 * 30 + 4));
        EXPECT.same("all", Expect.all(phone), before);
        EXPECT.same("undo", phone.undo() * 10 + phone.size(1), 3);
        EXPECT.same("snapshot 1", phone.restoreSnapshot(1), 7);
        EXPECT.same("snapshot 0", phone.restoreSnapshot(0), 3);
    }

    /** Promise 4: "text: 0 to 2", "Throws IllegalArgumentException if text is out of range" */
    static void loadOfAWrongTextThrows() {
        HallPhone phone = new HallPhone();
        phone.pass(3);
        int[] wrong = {-1, 3, Integer.MIN_VALUE, Integer.MAX_VALUE};
        for (int text : wrong) {
            EXPECT.thrownAndSame("load(" + text + ")", phone, IllegalArgumentException.class, () -> phone.load(text));
        }
        EXPECT.same("flats", "" + phone.load(0) + phone.load(1) + phone.load(2), "541");
    }

    /** Promise 4: "as parse() does; the buffer stays as it is": empty, full, and its bytes */
    static void loadLeavesTheBuffer() {
        HallPhone phone = new HallPhone();
        phone.load(1);
        EXPECT.same("empty", phone.size(12), 0);
        Expect.type(phone, "house 7 7;");
        phone.load(2);
        EXPECT.same("length", phone.size(12), 20);
        EXPECT.same("bytes", phone.parse(10) * 10 + phone.flat(1, 0), 27);
        fill(phone);
        phone.load(0);
        EXPECT.same("full", phone.size(12) + phone.append(0, 0, 0, 0, 0), 699);
    }

    /** Promise 4: "Replaces everything .., as parse() does" */
    static void loadEndsUndoAndSnapshots() {
        HallPhone phone = new HallPhone();
        phone.set(0, 1);
        phone.saveSnapshot(1);
        phone.writeSlate();
        phone.load(0);
        EXPECT.same("changes", phone.size(11) + phone.undo(), -1);
        EXPECT.noElement("snapshot 1", () -> phone.restoreSnapshot(1));
        EXPECT.same("report", Expect.report(phone), "4@0");
        EXPECT.same("as at first", phone.checksum(), new HallPhone().checksum());
    }
}
