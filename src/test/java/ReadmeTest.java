/** The calls that README.md shows answer as it says. */
public final class ReadmeTest {
    private static final Expect EXPECT = new Expect();

    public static void main(String[] args) {
        EXPECT.runCases(ReadmeTest.class);
    }

    private static int four(String text, int at) {
        return text.charAt(at) << 24 | text.charAt(at + 1) << 16 | text.charAt(at + 2) << 8 | text.charAt(at + 3);
    }

    /** Appends as the page does: what it shows, and not what the other tests use, is looked at. */
    private static int parsed(HallPhone phone, String text) {
        for (int at = 0; at < text.length(); at += 20) {
            phone.append(four(text, at), four(text, at + 4), four(text, at + 8), four(text, at + 12), four(text, at + 16));
        }
        return phone.parse(text.length());
    }

    static void theFirstCalls() {
        HallPhone phone = new HallPhone();
        EXPECT.same("load", phone.load(2), 1);
        EXPECT.same("hang", phone.hang(0), 10);
        EXPECT.same("want", phone.want(0, 5), 10);
        EXPECT.same("pass", phone.pass(12), 0);
        EXPECT.same("writeHouse", phone.writeHouse(), 3);
        EXPECT.same("report", Expect.report(phone), "0!3");
        EXPECT.same("reportAt", phone.reportAt(1), '!');
        EXPECT.same("undo", phone.undo(), 2);
    }

    static void aTextOfOnesOwn() {
        HallPhone phone = new HallPhone();
        EXPECT.same("parse", parsed(phone, "house 0 3 curious; want 0 9; pass 2;    "), 2);
        EXPECT.same("house", Expect.houseOf(phone), "0!8 1.");
    }

    static void anErrorOfAText() {
        HallPhone phone = new HallPhone();
        int error = -2 - parsed(phone, "house 0; want 1 9;  ");
        EXPECT.same("offset", error / 8, 14);
        EXPECT.same("code", error % 8, 2);
        EXPECT.same("flats as they were", phone.size(0), 5);
    }
}
