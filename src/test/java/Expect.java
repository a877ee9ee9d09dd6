import java.nio.charset.StandardCharsets;

/** Counts the answers that are not as due, and ends the test. */
final class Expect {
    private int wrong = 0;
    private int looked = 0;

    /** A call that may throw. */
    interface Call {
        Object answer();
    }

    void same(String what, Object got, Object due) {
        looked++;
        if (!due.equals(got)) {
            wrong++;
            System.out.println(what + " answered " + got + ", due is " + due);
        }
    }

    void thrown(String what, Class<? extends RuntimeException> due, Call call) {
        looked++;
        Object got;
        try {
            got = call.answer();
        } catch (RuntimeException e) {
            got = e.getClass();
        }
        if (!due.equals(got)) {
            wrong++;
            System.out.println(what + " answered " + got + ", due is a throw of " + due.getSimpleName());
        }
    }

    void index(String what, Call call) {
        thrown(what, IndexOutOfBoundsException.class, call);
    }

    void argument(String what, Call call) {
        thrown(what, IllegalArgumentException.class, call);
    }

    void noElement(String what, Call call) {
        thrown(what, java.util.NoSuchElementException.class, call);
    }

    void end(String test) {
        System.out.println(test + ": " + (looked - wrong) + " answers as due, " + wrong + " not");
        if (wrong != 0) {
            System.exit(1);
        }
    }

    /** Appends a text, filled up with bytes 0 to a multiple of 20; returns the last answer of append(). */
    static int type(HallPhone phone, String text) {
        return type(phone, text.getBytes(StandardCharsets.ISO_8859_1));
    }

    static int type(HallPhone phone, byte[] bytes) {
        int answer = phone.size(12);
        for (int at = 0; at < bytes.length; at += 20) {
            int[] fours = new int[5];
            for (int i = 0; i < 20; i++) {
                int b = at + i < bytes.length ? bytes[at + i] & 255 : 0;
                fours[i / 4] = fours[i / 4] << 8 | b;
            }
            answer = phone.append(fours[0], fours[1], fours[2], fours[3], fours[4]);
        }
        return answer;
    }

    /** Types a text into an empty buffer and parses it. */
    static int parsed(HallPhone phone, String text) {
        type(phone, text);
        return phone.parse(text.length());
    }

    /** A new object with this text, which has to be right. */
    static HallPhone house(String text) {
        HallPhone phone = new HallPhone();
        int flats = parsed(phone, text);
        if (flats < 1) {
            throw new IllegalStateException(text + " is answered by " + flats);
        }
        return phone;
    }

    static String report(HallPhone phone) {
        StringBuilder text = new StringBuilder();
        for (int i = 0; i < phone.size(13); i++) {
            text.append(phone.reportAt(i));
        }
        return text.toString();
    }

    static String houseOf(HallPhone phone) {
        phone.writeHouse();
        return report(phone);
    }

    static String slateOf(HallPhone phone) {
        phone.writeSlate();
        return report(phone);
    }
}
