import java.lang.reflect.InvocationTargetException;
import java.lang.reflect.Method;
import java.nio.charset.StandardCharsets;
import java.util.Random;

/** Long runs of calls, drawn from fixed seeds, answered by HallPhone and by Model alike. */
public final class ModelTest {
    private static final int RUNS = 250;
    private static final int CALLS = 500;

    private final Random random;
    private final HallPhone phone = new HallPhone();
    private final Model model = new Model();
    private final StringBuilder told = new StringBuilder();
    private boolean isRight = true;

    private ModelTest(long seed) {
        random = new Random(seed);
    }

    private static String outcome(HallPhone phone, Method method, int[] a) {
        Object[] arguments = new Object[a.length];
        for (int i = 0; i < a.length; i++) {
            boolean isTruth = method.getParameterTypes()[i] == boolean.class;
            arguments[i] = isTruth ? (Object) (a[i] == 1) : (Object) a[i];
        }
        try {
            return String.valueOf(method.invoke(phone, arguments));
        } catch (InvocationTargetException e) {
            return e.getCause().getClass().getSimpleName();
        } catch (IllegalAccessException e) {
            throw new IllegalStateException(e);
        }
    }

    private void call(String name, int... a) {
        for (Method method : HallPhone.class.getMethods()) {
            if (method.getName().equals(name) && method.getDeclaringClass() == HallPhone.class) {
                String got = outcome(phone, method, a);
                String due = model.call(name, a);
                told.append(name).append(java.util.Arrays.toString(a)).append(" -> ").append(got).append('\n');
                if (!got.equals(due)) {
                    isRight = false;
                    told.append("  due is ").append(due).append('\n');
                }
            }
        }
    }

    private int pick(int least, int greatest) {
        return least + random.nextInt(greatest - least + 1);
    }

    /** Mostly a number in range, now and then one beside it. */
    private int around(int least, int greatest) {
        int chance = random.nextInt(60);
        if (chance == 0) {
            return random.nextBoolean() ? least - 1 : greatest + 1;
        }
        return chance == 1 ? random.nextInt() : chance < 5 ? random.nextBoolean() ? least : greatest
                : pick(least, greatest);
    }

    private int flat() {
        return around(0, phone.size(0) - 1);
    }

    private int minutes() {
        return random.nextInt(3) == 0 ? around(1, 99) : pick(1, 9);
    }

    private void change() {
        int which = around(0, 5);
        switch (random.nextInt(14)) {
            case 0: case 1: case 2: call("want", flat(), minutes()); break;
            case 3: call("drop", flat()); break;
            case 4: call("hang", phone.size(3) >= 0 && random.nextBoolean() ? phone.size(3) : flat()); break;
            case 5: case 6: call("ring", flat(), minutes()); break;
            case 7: call("pay", flat(), random.nextBoolean() ? pick(1, 20) : around(1, 9999)); break;
            case 8: call("setCurious", flat(), random.nextInt(2)); break;
            case 9:
                call("set", which, which == 0 ? random.nextBoolean() ? pick(0, 8) : around(0, 60)
                        : which == 1 ? around(1, 30) : which == 2 ? around(0, 99) : which == 3 ? around(0, 9)
                        : which == 4 ? random.nextBoolean() ? pick(1, 9) : around(1, 99) : around(0, 20));
                break;
            case 10: call("pass", random.nextInt(6) == 0 ? around(1, 999) : pick(1, 30)); break;
            default: call("pass", pick(1, 4)); break;
        }
    }

    private void question() {
        switch (random.nextInt(16)) {
            case 0: call("size", around(0, 13)); break;
            case 1: call("setting", around(0, 5)); break;
            case 2: call("flat", flat(), around(0, 10)); break;
            case 3: call("queued", around(0, 4)); break;
            case 4: call("message", around(0, Math.max(0, phone.size(9) - 1)), around(0, 1)); break;
            case 5: call("heard", flat(), flat()); break;
            case 6: call("knowing", flat()); break;
            case 7: call("listening", flat()); break;
            case 8: call("mostKnown"); break;
            case 9: call("cost", around(1, 99)); break;
            case 10: case 11: call("why", flat(), around(0, 1)); break;
            case 12: call("account", around(0, 10)); break;
            case 13: call("ifRung", flat()); break;
            case 14: call("meanCall"); break;
            default: call("busyShare"); break;
        }
    }

    private void future() {
        int ahead = random.nextBoolean() ? pick(0, 30) : around(0, 500);
        switch (random.nextInt(20)) {
            case 0: call("speaksIn", flat()); break;
            case 1: call("freeIn"); break;
            case 2: call("waitIf", flat()); break;
            case 3: call("bestLimit"); break;
            case 4: case 5: case 6: case 7: case 8: call("flatIn", flat(), ahead); break;
            case 9: case 10: case 11: case 12: case 13: call("debtIn", flat(), ahead); break;
            default: call("learnsIn", flat(), ahead); break;
        }
    }

    private void report() {
        call(random.nextBoolean() ? "writeHouse" : "writeSlate");
        for (int index = -1; index <= phone.size(13); index++) {
            call("reportAt", index);
        }
    }

    private void rarely() {
        switch (random.nextInt(8)) {
            case 0: call("load", around(0, 2)); break;
            case 1: case 2: text(); break;
            case 3: call("saveSnapshot", around(0, 1)); break;
            case 4: call("restoreSnapshot", around(0, 1)); break;
            case 5: call("append", random.nextInt(), random.nextInt(), random.nextInt(), random.nextInt(),
                    random.nextInt()); break;
            default:
                for (int times = pick(1, 9); times > 0; times--) {
                    call("undo");
                }
                break;
        }
    }

    // ---- texts

    private String word() {
        String[] words = {"house", "curious", "limit", "unit", "rate", "ear", "secret", "patience", "want", "drop",
            "hang", "ring", "pay", "pass", "wan", "wants", "x", ";", "#", "0", "12345", ""};
        return words[random.nextInt(words.length)];
    }

    private String statement(int flats) {
        int flat = random.nextInt(40) == 0 ? flats : random.nextInt(flats);
        switch (random.nextInt(12)) {
            case 0: return "limit " + around(0, 60);
            case 1: return "unit " + around(1, 30);
            case 2: return "rate " + around(0, 99);
            case 3: return "ear " + around(0, 9);
            case 4: return "secret " + around(1, 99);
            case 5: return "patience " + around(0, 20);
            case 6: return random.nextInt(6) == 0 ? "drop " + flat : "unit 4";
            case 7: return random.nextInt(6) == 0 ? "hang " + flat : "limit 9";
            case 8: return random.nextInt(3) == 0 ? "ring " + flat + " " + minutes() : "pass 30";
            case 9: return random.nextInt(6) == 0 ? "pay " + flat + " " + pick(1, 9) : "pass 3";
            case 10: return "pass " + (random.nextBoolean() ? pick(1, 9) : around(1, 999));
            default: return "want " + flat + " " + minutes();
        }
    }

    private String drawnText() {
        StringBuilder text = new StringBuilder("house");
        int flats = random.nextInt(30) == 0 ? 11 : pick(1, 10);
        for (int flat = 0; flat < flats; flat++) {
            text.append(' ').append(random.nextInt(80) == 0 ? 10 : random.nextInt(random.nextBoolean() ? 3 : 10));
            text.append(random.nextBoolean() ? " curious" : "");
        }
        for (int left = pick(0, 12); left >= 0; left--) {
            text.append(random.nextInt(5) == 0 ? " ; \n" : ";").append(left > 0 ? statement(flats) : "");
        }
        if (random.nextInt(4) == 0) {
            int at = random.nextInt(text.length());
            text.insert(at, random.nextBoolean() ? " " + word() + " " : word());
        }
        if (random.nextInt(4) == 0) {
            int at = random.nextInt(text.length());
            text.delete(at, Math.min(text.length(), at + pick(1, 4)));
        }
        if (random.nextInt(8) == 0) {
            text.setCharAt(random.nextInt(text.length()), (char) random.nextInt(256));
        }
        return text.toString();
    }

    private void text() {
        if (phone.size(12) > 0) {
            call("parse", phone.size(12));
        }
        byte[] bytes = drawnText().getBytes(StandardCharsets.ISO_8859_1);
        for (int at = 0; at < bytes.length; at += 20) {
            int[] fours = new int[5];
            for (int i = 0; i < 20; i++) {
                fours[i / 4] = fours[i / 4] << 8 | (at + i < bytes.length ? bytes[at + i] & 255 : 32);
            }
            call("append", fours);
        }
        call("parse", random.nextInt(20) == 0 ? around(0, phone.size(12)) : Math.min(phone.size(12), bytes.length));
    }

    private boolean run() {
        for (int i = 0; i < CALLS && isRight; i++) {
            int chance = random.nextInt(100);
            if (chance < 45) {
                change();
            } else if (chance < 75) {
                question();
            } else if (chance < 93) {
                future();
            } else if (chance < 97) {
                rarely();
            } else {
                report();
            }
            call("checksum");
            call("size", 11);
        }
        return isRight;
    }

    public static void main(String[] args) {
        int runs = args.length > 0 ? Integer.parseInt(args[0]) : RUNS;
        for (int seed = 0; seed < runs; seed++) {
            ModelTest test = new ModelTest(seed);
            if (!test.run()) {
                String told = test.told.toString();
                System.out.println("run " + seed + ": .. " + told.substring(Math.max(0, told.length() - 2000)));
                System.exit(1);
            }
        }
        System.out.println("ModelTest: " + runs + " runs as due");
    }
}
