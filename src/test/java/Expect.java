import java.lang.reflect.InvocationTargetException;
import java.lang.reflect.Method;
import java.lang.reflect.Modifier;
import java.nio.charset.StandardCharsets;
import java.util.Arrays;
import java.util.Comparator;

/** Counts the answers that are not as due, and ends the test. */
final class Expect {
    private int wrong = 0;
    private int looked = 0;

    /** A call that may throw. */
    interface Call {
        Object answer();
    }

    void same(String what, Object got, Object due) {
        looked++;
        if (!due.equals(got)) {
            wrong++;
            System.out.println(what + " answered " + got + ", due is " + due);
        }
    }

    void thrown(String what, Class<? extends RuntimeException> due, Call call) {
        looked++;
        Object got;
        try {
            got = call.answer();
        } catch (RuntimeException e) {
            got = e.getClass();
        }
        if (!due.equals(got)) {
            wrong++;
            System.out.println(what + " answered " + got + ", due is a throw of " + due.getSimpleName());
        }
    }

    void index(String what, Call call) {
        thrown(what, IndexOutOfBoundsException.class, call);
    }

    void argument(String what, Call call) {
        thrown(what, IllegalArgumentException.class, call);
    }

    void noElement(String what, Call call) {
        thrown(what, java.util.NoSuchElementException.class, call);
    }

    /** A refused call: the negative of its reason, and nothing has changed. */
    void refused(String what, HallPhone phone, int reason, Call call) {
        String before = all(phone);
        Object answer = call.answer();
        same(what, answer, -reason);
        same("all behind " + what, all(phone), before);
    }

    /** A call that throws, and nothing has changed. */
    void thrownAndSame(String what, HallPhone phone, Class<? extends RuntimeException> due, Call call) {
        String before = all(phone);
        thrown(what, due, call);
        same("all behind " + what, all(phone), before);
    }

    /** Parses a text for its error at an offset; everything but the buffer has to be as it was. */
    void textError(String text, int offset, int code) {
        HallPhone phone = new HallPhone();
        phone.pass(2);
        phone.saveSnapshot(1);
        phone.writeHouse();
        long before = phone.checksum();
        same("parse of '" + text + "'", parsed(phone, text), -2 - (8 * offset + code));
        same("checksum behind '" + text + "'", phone.checksum(), before);
        same("buffer behind '" + text + "'", phone.size(12), 0);
        same("report behind '" + text + "'", report(phone), "0#1 1!5 2. 3#0 4.");
        same("changes behind '" + text + "'", phone.size(11), 1);
        same("snapshot behind '" + text + "'", phone.restoreSnapshot(1), 5);
    }

    /** Parses a text that is right, and has so many flats. */
    void textRight(String text, int flats) {
        same("parse of '" + text + "'", parsed(new HallPhone(), text), flats);
    }

    /** Runs every case of a test (a static method without parameters and answer), so that none can be forgotten. */
    void runCases(Class<?> test) {
        Method[] methods = test.getDeclaredMethods();
        Arrays.sort(methods, Comparator.comparing(Method::getName));
        for (Method method : methods) {
            boolean isBare = method.getParameterCount() == 0 && method.getReturnType() == void.class;
            if (isBare && Modifier.isStatic(method.getModifiers()) && !method.isSynthetic()) {
                runCase(method);
            }
        }
        end(test.getSimpleName());
    }

    private void runCase(Method method) {
        int wrongBefore = wrong;
        int lookedBefore = looked;
        try {
            method.invoke(null);
        } catch (InvocationTargetException | IllegalAccessException e) {
            wrong++;
            System.out.println("ended by " + e.getCause());
        }
        if (looked == lookedBefore) {
            wrong++;
            System.out.println("looked at nothing");
        }
        if (wrong > wrongBefore) {
            System.out.println("  in the case " + method.getName());
        }
    }

    void end(String test) {
        System.out.println(test + ": " + (looked - wrong) + " answers as due, " + wrong + " not");
        if (wrong != 0) {
            System.exit(1);
        }
    }

    /** Appends a text, filled up with bytes 0 to a multiple of 20; returns the last answer of append(). */
    static int type(HallPhone phone, String text) {
        return type(phone, text.getBytes(StandardCharsets.ISO_8859_1));
    }

    static int type(HallPhone phone, byte[] bytes) {
        int answer = phone.size(12);
        for (int at = 0; at < bytes.length; at += 20) {
            int[] fours = new int[5];
            for (int i = 0; i < 20; i++) {
                int b = at + i < bytes.length ? bytes[at + i] & 255 : 0;
                fours[i / 4] = fours[i / 4] << 8 | b;
            }
            answer = phone.append(fours[0], fours[1], fours[2], fours[3], fours[4]);
        }
        return answer;
    }

    /** Types a text into an empty buffer and parses it. */
    static int parsed(HallPhone phone, String text) {
        type(phone, text);
        return phone.parse(text.length());
    }

    /** A new object with this text, which has to be right. */
    static HallPhone house(String text) {
        HallPhone phone = new HallPhone();
        int flats = parsed(phone, text);
        if (flats < 1) {
            throw new IllegalStateException(text + " is answered by " + flats);
        }
        return phone;
    }

    /** What a call may change: all but the bytes of the buffer and what the snapshots hold. */
    static String all(HallPhone phone) {
        StringBuilder all = new StringBuilder();
        all.append(phone.checksum()).append(' ').append(phone.meanCall()).append(' ').append(phone.freeIn());
        for (int flat = 0; flat < phone.size(0); flat++) {
            all.append(' ').append(phone.speaksIn(flat)).append(' ').append(phone.debtIn(flat, 500));
        }
        for (int what = 11; what <= 13; what++) {
            all.append(' ').append(phone.size(what));
        }
        return all.append(' ').append(report(phone)).toString();
    }

    static String report(HallPhone phone) {
        StringBuilder text = new StringBuilder();
        for (int i = 0; i < phone.size(13); i++) {
            text.append(phone.reportAt(i));
        }
        return text.toString();
    }

    static String houseOf(HallPhone phone) {
        phone.writeHouse();
        return report(phone);
    }

    static String slateOf(HallPhone phone) {
        phone.writeSlate();
        return report(phone);
    }
}
