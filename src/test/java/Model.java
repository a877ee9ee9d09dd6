import java.util.ArrayDeque;
import java.util.ArrayList;
import java.util.Arrays;
import java.util.Deque;
import java.util.List;
import java.util.NoSuchElementException;

/**
 * A second program of the document, for comparison: it is slow, makes objects as it likes, reads a text as a list of
 * tokens, and finds what would be from a list of all houses to come.
 */
final class Model {
    private static final String[] WORDS = {"limit", "unit", "rate", "ear", "secret", "patience"};
    private static final int[][] RANGES = {{0, 60}, {1, 30}, {0, 99}, {0, 9}, {1, 99}, {0, 20}};

    private static final class Flat {
        int floor;
        boolean curious;
        String is = "home";
        int steps;
        int wish;
        boolean toOutsideCall;
        int debt;
        int spoke;
        int ended;
        int waited;
        int[] heard = new int[10];

        Flat copy() {
            Flat copy = new Flat();
            copy.floor = floor;
            copy.curious = curious;
            copy.is = is;
            copy.steps = steps;
            copy.wish = wish;
            copy.toOutsideCall = toOutsideCall;
            copy.debt = debt;
            copy.spoke = spoke;
            copy.ended = ended;
            copy.waited = waited;
            copy.heard = heard.clone();
            return copy;
        }
    }

    private static final class House {
        List<Flat> flats = new ArrayList<>();
        List<Flat> queue = new ArrayList<>();
        List<int[]> slate = new ArrayList<>();
        int[] settings = {0, 3, 4, 1, 5, 3};
        long[] accounts = new long[10];
        int time;
        int spokenInEnded;
        Flat speaker;
        int spoken;
        int left;
        boolean outside;
        int ringMinutes;

        House copy() {
            House copy = new House();
            for (Flat flat : flats) {
                copy.flats.add(flat.copy());
            }
            for (Flat flat : queue) {
                copy.queue.add(copy.flats.get(flats.indexOf(flat)));
            }
            for (int[] message : slate) {
                copy.slate.add(message.clone());
            }
            copy.settings = settings.clone();
            copy.accounts = accounts.clone();
            copy.time = time;
            copy.spokenInEnded = spokenInEnded;
            copy.speaker = speaker == null ? null : copy.flats.get(flats.indexOf(speaker));
            copy.spoken = spoken;
            copy.left = left;
            copy.outside = outside;
            copy.ringMinutes = ringMinutes;
            return copy;
        }

        Flat called() {
            for (Flat flat : flats) {
                if (flat.toOutsideCall) {
                    return flat;
                }
            }
            return null;
        }

        int telephone() {
            return speaker != null ? 2 : called() != null ? 1 : 0;
        }

        int number(Flat flat) {
            return flat == null ? -1 : flats.indexOf(flat);
        }

        int cost(int minutes) {
            int units = minutes / settings[1];
            if (units * settings[1] < minutes) {
                units++;
            }
            return units * settings[2];
        }

        void end(boolean cut) {
            speaker.is = "home";
            speaker.ended++;
            spokenInEnded += spoken;
            accounts[1]++;
            if (cut) {
                accounts[2]++;
            }
            if (!outside) {
                speaker.debt += cost(spoken);
                accounts[4] += cost(spoken);
            }
            speaker = null;
            outside = false;
        }

        void speaks(Flat flat, int minutes, boolean fromOutside) {
            flat.is = "speaking";
            flat.wish = 0;
            flat.steps = 0;
            flat.toOutsideCall = false;
            speaker = flat;
            spoken = 0;
            left = minutes;
            outside = fromOutside;
        }

        /** One minute, step by step; returns how many calls ended. */
        int minute() {
            time++;
            accounts[0]++;
            // (a)
            if (speaker != null) {
                spoken++;
                left--;
                speaker.spoke++;
                accounts[3]++;
                for (Flat flat : flats) {
                    if (flat.is.equals("home") && flat.curious && flat.floor <= settings[3]) {
                        flat.heard[number(speaker)]++;
                        accounts[9]++;
                    }
                }
            }
            // (b)
            List<Flat> arrived = new ArrayList<>();
            for (Flat flat : flats) {
                if (flat.is.equals("coming")) {
                    flat.steps--;
                    if (flat.steps == 0) {
                        arrived.add(flat);
                    }
                }
            }
            for (Flat flat : arrived) {
                int before = slate.size();
                slate.removeIf(message -> message[0] == number(flat));
                accounts[7] += before - slate.size();
                if (flat.toOutsideCall) {
                    speaks(flat, ringMinutes, true);
                } else {
                    flat.is = "queued";
                    queue.add(flat);
                }
            }
            // (c)
            int ended = 0;
            if (speaker != null) {
                if (left == 0) {
                    end(false);
                    ended = 1;
                } else if (settings[0] > 0 && spoken >= settings[0] && !queue.isEmpty()) {
                    end(true);
                    ended = 1;
                }
            }
            // (d)
            if (telephone() == 0 && !queue.isEmpty()) {
                Flat first = queue.remove(0);
                speaks(first, first.wish, false);
            }
            for (Flat flat : queue) {
                flat.waited++;
            }
            return ended;
        }

        int ringOutcome(Flat flat) {
            if (flat.is.equals("home") && flat.floor <= settings[5]) {
                return 0;
            }
            return flat.is.equals("queued") ? 1 : slate.size() < 8 ? 2 : 3;
        }

        int want(Flat flat, int minutes) {
            if (!flat.is.equals("home")) {
                return -2;
            }
            flat.is = "coming";
            flat.steps = 1 + flat.floor;
            flat.wish = minutes;
            return flat.steps;
        }

        int drop(Flat flat) {
            boolean comes = flat.is.equals("coming") && !flat.toOutsideCall;
            if (!comes && !flat.is.equals("queued")) {
                return -3;
            }
            int wish = flat.wish;
            queue.remove(flat);
            flat.is = "home";
            flat.steps = 0;
            flat.wish = 0;
            return wish;
        }

        int hang(Flat flat) {
            if (flat != speaker) {
                return -4;
            }
            int minutes = spoken;
            end(false);
            return minutes;
        }

        int ring(Flat flat, int minutes) {
            if (telephone() != 0) {
                return -5;
            }
            int outcome = ringOutcome(flat);
            if (outcome == 0) {
                flat.is = "coming";
                flat.steps = 1 + flat.floor;
                flat.wish = 0;
                flat.toOutsideCall = true;
                ringMinutes = minutes;
            } else if (outcome == 1) {
                queue.remove(flat);
                speaks(flat, minutes, true);
            } else if (outcome == 2) {
                slate.add(new int[] {number(flat), time});
                accounts[6]++;
            } else {
                accounts[8]++;
            }
            return outcome;
        }

        int pay(Flat flat, int amount) {
            if (amount > flat.debt) {
                return -6;
            }
            flat.debt -= amount;
            accounts[5] += amount;
            return flat.debt;
        }

        int pass(int minutes) {
            int ended = 0;
            for (int i = 0; i < minutes; i++) {
                ended += minute();
            }
            return ended;
        }

        int debts() {
            return flats.stream().mapToInt(flat -> flat.debt).sum();
        }

        long size(int what) {
            switch (what) {
                case 0: return flats.size();
                case 1: return time;
                case 2: return telephone();
                case 3: return number(speaker != null ? speaker : called());
                case 4: return speaker == null ? 0 : spoken;
                case 5: return speaker == null ? 0 : left;
                case 6: return called() != null || speaker != null && outside ? 1 : 0;
                case 7: return queue.size();
                case 8: return flats.stream().filter(flat -> flat.is.equals("coming")).count();
                case 9: return slate.size();
                default: return debts();
            }
        }

        int state(Flat flat) {
            return Arrays.asList("home", "coming", "queued", "speaking").indexOf(flat.is);
        }

        int flat(Flat flat, int what) {
            switch (what) {
                case 0: return flat.floor;
                case 1: return flat.curious ? 1 : 0;
                case 2: return state(flat);
                case 3: return flat.steps;
                case 4: return flat.wish;
                case 5: return queue.indexOf(flat);
                case 6: return flat.debt;
                case 7: return flat.spoke;
                case 8: return flat.ended;
                case 9: return (int) slate.stream().filter(message -> message[0] == number(flat)).count();
                default: return flat.waited;
            }
        }

        long account(int what) {
            return what < 10 ? accounts[what]
                    : accounts[4] - accounts[5] - debts() + accounts[6] - accounts[7] - slate.size();
        }

        boolean knows(Flat flat, Flat other) {
            return flat.heard[number(other)] >= settings[4];
        }

        long checksum() {
            List<Long> row = new ArrayList<>();
            for (int what = 0; what <= 10; what++) {
                row.add(size(what));
            }
            for (int setting : settings) {
                row.add((long) setting);
            }
            for (Flat flat : flats) {
                for (int what = 0; what <= 10; what++) {
                    row.add((long) flat(flat, what));
                }
                for (int other = 0; other < flats.size(); other++) {
                    row.add((long) flat.heard[other]);
                }
            }
            for (int[] message : slate) {
                row.add((long) message[0]);
                row.add((long) message[1]);
            }
            for (long account : accounts) {
                row.add(account);
            }
            long sum = 0;
            for (long n : row) {
                sum = 31 * sum + n;
            }
            return sum;
        }
    }

    private House house;
    private final byte[] buffer = new byte[700];
    private int length;
    private String report = "";
    private Deque<House> past = new ArrayDeque<>();
    private House[] snapshots = new House[2];

    Model() {
        load(0);
    }

    // ---- texts

    private static final class Token {
        final int start;
        final String text;

        Token(int start, String text) {
            this.start = start;
            this.text = text;
        }

        boolean isNumber() {
            return text.matches("[0-9]{1,4}");
        }
    }

    /** An error ends the reading of a text. */
    private static final class TextError extends Exception {
        private static final long serialVersionUID = 1L;
        final int number;

        TextError(int offset, int code) {
            number = 8 * offset + code;
        }
    }

    private static List<Token> tokens(String text) {
        List<Token> tokens = new ArrayList<>();
        java.util.regex.Matcher matcher = java.util.regex.Pattern.compile("[a-z]+|[0-9]+|[^ \n]").matcher(text);
        while (matcher.find()) {
            tokens.add(new Token(matcher.start(), matcher.group()));
        }
        tokens.add(new Token(text.length(), ""));
        return tokens;
    }

    private static int number(Token token, int least, int greatest) throws TextError {
        if (!token.isNumber()) {
            throw new TextError(token.start, 1);
        }
        int number = Integer.parseInt(token.text);
        if (number < least || number > greatest) {
            throw new TextError(token.start, 2);
        }
        return number;
    }

    private static void need(Token token, String text) throws TextError {
        if (!token.text.equals(text)) {
            throw new TextError(token.start, 1);
        }
    }

    private static House read(String text) throws TextError {
        List<Token> tokens = tokens(text);
        House house = new House();
        int at = 0;
        need(tokens.get(at++), "house");
        do {
            Token floor = tokens.get(at++);
            Flat flat = new Flat();
            flat.floor = number(floor, 0, 9);
            if (house.flats.size() == 10) {
                throw new TextError(floor.start, 3);
            }
            house.flats.add(flat);
            if (tokens.get(at).text.equals("curious")) {
                flat.curious = true;
                at++;
            }
        } while (tokens.get(at).isNumber());
        need(tokens.get(at++), ";");
        while (at < tokens.size() - 1) {
            at = statement(house, tokens, at);
        }
        return house;
    }

    private static int statement(House house, List<Token> tokens, int first) throws TextError {
        int at = first;
        Token word = tokens.get(at++);
        int setting = Arrays.asList(WORDS).indexOf(word.text);
        boolean ofFlat = Arrays.asList("want", "drop", "hang", "ring", "pay").contains(word.text);
        if (setting < 0 && !ofFlat && !word.text.equals("pass")) {
            throw new TextError(word.start, 1);
        }
        Flat flat = ofFlat ? house.flats.get(number(tokens.get(at++), 0, house.flats.size() - 1)) : null;
        int n = 0;
        if (setting >= 0) {
            n = number(tokens.get(at++), RANGES[setting][0], RANGES[setting][1]);
        } else if (word.text.equals("pay")) {
            n = number(tokens.get(at++), 1, 9999);
        } else if (word.text.equals("pass")) {
            n = number(tokens.get(at++), 1, 999);
        } else if (word.text.equals("want") || word.text.equals("ring")) {
            n = number(tokens.get(at++), 1, 99);
        }
        Token end = tokens.get(at++);
        need(end, ";");
        int answer = 0;
        switch (word.text) {
            case "want": answer = house.want(flat, n); break;
            case "drop": answer = house.drop(flat); break;
            case "hang": answer = house.hang(flat); break;
            case "ring": answer = house.ring(flat, n); break;
            case "pay": answer = house.pay(flat, n); break;
            case "pass": answer = house.pass(n); break;
            default: house.settings[setting] = n; break;
        }
        if (answer < 0) {
            throw new TextError(end.start, 4);
        }
        return at;
    }

    private int replaceBy(String text) {
        try {
            house = read(text);
        } catch (TextError e) {
            return -2 - e.number;
        }
        past.clear();
        snapshots = new House[2];
        return house.flats.size();
    }

    int append(int... fours) {
        if (length + 20 > 700) {
            return -1;
        }
        for (int four : fours) {
            for (byte b : java.nio.ByteBuffer.allocate(4).putInt(four).array()) {
                buffer[length++] = b;
            }
        }
        return length;
    }

    int parse(int bytes) {
        range(bytes, 0, length);
        length = 0;
        return replaceBy(new String(buffer, 0, bytes, java.nio.charset.StandardCharsets.ISO_8859_1));
    }

    int load(int text) {
        range(text, 0, 2);
        String first = "house 0 curious 1 3 2 curious 4; limit 6; ring 4 5; want 1 8; want 3 4; pass 3; want 0 10;";
        String second = "house 1 curious 1 curious 5 0; unit 2; rate 10; secret 3; patience 2; want 2 9; ring 1 4; "
                + "pass 8; want 3 30; pass 2; limit 6; pass 3; hang 3; ring 2 3; ring 3 5; pass 1; pay 2 12;";
        String third = "house 9; rate 0; ear 0; patience 0; want 0 99; pass 20;";
        return replaceBy(text == 0 ? first : text == 1 ? second : third);
    }

    // ---- exceptions

    private static void range(int number, int least, int greatest) {
        if (number < least || number > greatest) {
            throw new IllegalArgumentException();
        }
    }

    private Flat flatOf(int flat) {
        if (flat < 0 || flat >= house.flats.size()) {
            throw new IndexOutOfBoundsException();
        }
        return house.flats.get(flat);
    }

    // ---- questions

    private int set(java.util.function.Predicate<Flat> isIn) {
        int set = 0;
        for (Flat flat : house.flats) {
            if (isIn.test(flat)) {
                set += (int) Math.pow(2, house.number(flat));
            }
        }
        return set;
    }

    private int knowing(Flat other) {
        return set(flat -> house.knows(flat, other));
    }

    private int mostKnown() {
        int most = 0;
        for (Flat flat : house.flats) {
            most = Math.max(most, Integer.bitCount(knowing(flat)));
        }
        for (Flat flat : house.flats) {
            if (most > 0 && Integer.bitCount(knowing(flat)) == most) {
                return house.number(flat);
            }
        }
        return -1;
    }

    private int why(Flat flat, int depth) {
        int reason;
        int cause;
        switch (flat.is) {
            case "speaking": reason = 0; cause = house.spoken; break;
            case "home": reason = 1; cause = house.flat(flat, 9); break;
            case "coming": reason = 2; cause = flat.steps; break;
            default:
                reason = house.telephone() == 2 ? 3 : house.telephone() == 1 ? 4 : 5;
                cause = reason == 5 ? house.queue.indexOf(flat) : (int) house.size(3);
                break;
        }
        return depth == 0 ? reason : cause;
    }

    // ---- what would be

    private static List<House> future(House from, int minutes) {
        List<House> houses = new ArrayList<>();
        House house = from.copy();
        houses.add(house.copy());
        for (int i = 1; i <= minutes; i++) {
            house.minute();
            houses.add(house.copy());
        }
        return houses;
    }

    private static int first(List<House> houses, java.util.function.Predicate<House> is) {
        for (int minutes = 0; minutes < houses.size(); minutes++) {
            if (is.test(houses.get(minutes))) {
                return minutes;
            }
        }
        return -1;
    }

    private static int speaksIn(House from, int flat) {
        return first(future(from, 500), house -> house.flats.get(flat).is.equals("speaking"));
    }

    private int waitIf(int flat) {
        House house = this.house.copy();
        return house.want(house.flats.get(flat), 50) < 0 ? -1 : speaksIn(house, flat);
    }

    private int bestLimit() {
        int best = -1;
        int fewest = 501;
        int waiting = set(flat -> flat.is.equals("queued") || flat.is.equals("coming"));
        for (int limit = 1; limit <= 60 && waiting > 0; limit++) {
            House house = this.house.copy();
            house.settings[0] = limit;
            List<House> future = future(house, 120);
            int most = 0;
            for (int flat = 0; flat < house.flats.size(); flat++) {
                if ((waiting >> flat & 1) == 1) {
                    int number = flat;
                    int minutes = first(future, later -> later.flats.get(number).is.equals("speaking"));
                    most = Math.max(most, minutes < 0 ? 501 : minutes);
                }
            }
            if (most < fewest) {
                fewest = most;
                best = limit;
            }
        }
        return best;
    }

    private House later(int minutes) {
        range(minutes, 0, 500);
        House later = house.copy();
        later.pass(minutes);
        return later;
    }

    private int learnsIn(int flat, int minutes) {
        House later = later(minutes);
        return set(other -> !house.knows(house.flats.get(flat), other)
                && later.knows(later.flats.get(flat), later.flats.get(house.number(other))));
    }

    // ---- reports

    private String houseReport() {
        List<String> parts = new ArrayList<>();
        for (Flat flat : house.flats) {
            String part = String.valueOf(house.number(flat));
            switch (flat.is) {
                case "home": part += "."; break;
                case "coming": part += "<" + flat.steps; break;
                case "queued": part += "#" + house.queue.indexOf(flat); break;
                default: part += "!" + house.left; break;
            }
            parts.add(part);
        }
        return String.join(" ", parts);
    }

    private String slateReport() {
        List<String> parts = new ArrayList<>();
        for (int[] message : house.slate) {
            parts.add(message[0] + "@" + message[1]);
        }
        return parts.isEmpty() ? "-" : String.join(" ", parts);
    }

    private int write(String text) {
        report = text;
        return text.length();
    }

    // ---- changes

    /** Takes the house over as changed, unless the answer is a refusal. */
    private int change(House changed, int answer) {
        if (answer >= 0) {
            past.push(house);
            if (past.size() > 8) {
                past.removeLast();
            }
            house = changed;
        }
        return answer;
    }

    private int changed(String name, int[] a) {
        House next = house.copy();
        switch (name) {
            case "pass": range(a[0], 1, 999); return change(next, next.pass(a[0]));
            case "set":
                range(a[0], 0, 5);
                range(a[1], RANGES[a[0]][0], RANGES[a[0]][1]);
                next.settings[a[0]] = a[1];
                return change(next, house.settings[a[0]]);
            default: break;
        }
        Flat flat = next.flats.get(house.number(flatOf(a[0])));
        switch (name) {
            case "want": range(a[1], 1, 99); return change(next, next.want(flat, a[1]));
            case "ring": range(a[1], 1, 99); return change(next, next.ring(flat, a[1]));
            case "pay": range(a[1], 1, 9999); return change(next, next.pay(flat, a[1]));
            case "drop": return change(next, next.drop(flat));
            case "hang": return change(next, next.hang(flat));
            default:
                boolean was = flat.curious;
                flat.curious = a[1] == 1;
                return change(next, was ? 1 : 0);
        }
    }

    private int undo() {
        if (past.isEmpty()) {
            return -1;
        }
        house = past.pop();
        return past.size();
    }

    private int saveSnapshot(int slot) {
        range(slot, 0, 1);
        int was = snapshots[slot] == null ? 0 : 1;
        snapshots[slot] = house.copy();
        return was;
    }

    private int restoreSnapshot(int slot) {
        range(slot, 0, 1);
        if (snapshots[slot] == null) {
            throw new NoSuchElementException();
        }
        house = snapshots[slot].copy();
        past.clear();
        return house.time;
    }

    // ---- a call by its name

    /** What a call answers, as a text; the name of an exception if it throws one. */
    String call(String name, int... a) {
        try {
            return answer(name, a);
        } catch (RuntimeException e) {
            return e.getClass().getSimpleName();
        }
    }

    private String answer(String name, int[] a) {
        switch (name) {
            case "append": return "" + append(a);
            case "parse": return "" + parse(a[0]);
            case "load": return "" + load(a[0]);
            case "size": range(a[0], 0, 13);
                return "" + (a[0] < 11 ? house.size(a[0]) : a[0] == 11 ? past.size() : a[0] == 12 ? length
                        : report.length());
            case "setting": range(a[0], 0, 5); return "" + house.settings[a[0]];
            case "queued":
                return "" + (a[0] < 0 || a[0] >= house.queue.size() ? -1 : house.number(house.queue.get(a[0])));
            case "message":
                if (a[0] < 0 || a[0] >= house.slate.size()) {
                    throw new NoSuchElementException();
                }
                range(a[1], 0, 1);
                return "" + house.slate.get(a[0])[a[1]];
            case "mostKnown": return "" + mostKnown();
            case "cost": range(a[0], 1, 99); return "" + house.cost(a[0]);
            case "freeIn": return "" + first(future(house, 500), house -> house.telephone() == 0);
            case "bestLimit": return "" + bestLimit();
            case "account": range(a[0], 0, 10); return "" + house.account(a[0]);
            case "meanCall":
                return "" + (house.accounts[1] == 0 ? 0.0 : (double) house.spokenInEnded / (double) house.accounts[1]);
            case "busyShare":
                return "" + (house.accounts[0] == 0 ? 0.0f : (float) house.accounts[3] / (float) house.accounts[0]);
            case "writeHouse": return "" + write(houseReport());
            case "writeSlate": return "" + write(slateReport());
            case "reportAt": return "" + (a[0] < 0 || a[0] >= report.length() ? '\0' : report.charAt(a[0]));
            case "undo": return "" + undo();
            case "saveSnapshot": return "" + (saveSnapshot(a[0]) == 1);
            case "restoreSnapshot": return "" + restoreSnapshot(a[0]);
            case "checksum": return "" + house.checksum();
            case "setCurious": return "" + (changed(name, a) == 1);
            case "pass": case "set": case "want": case "ring": case "pay": case "drop": case "hang":
                return "" + changed(name, a);
            default: return "" + ofFlat(name, flatOf(a[0]), a);
        }
    }

    private int ofFlat(String name, Flat flat, int[] a) {
        switch (name) {
            case "flat": range(a[1], 0, 10); return house.flat(flat, a[1]);
            case "heard": flatOf(a[1]); return flat.heard[a[1]];
            case "knowing": return knowing(flat);
            case "listening":
                return set(each -> each != flat && each.is.equals("home") && each.curious
                        && each.floor <= house.settings[3]);
            case "why": range(a[1], 0, 1); return why(flat, a[1]);
            case "speaksIn": return speaksIn(house, a[0]);
            case "flatIn": House one = later(a[1]); return one.state(one.flats.get(a[0]));
            case "debtIn": return later(a[1]).flats.get(a[0]).debt;
            case "waitIf": return waitIf(a[0]);
            case "learnsIn": return learnsIn(a[0], a[1]);
            case "ifRung": return house.telephone() != 0 ? 5 : house.ringOutcome(flat);
            default: throw new IllegalStateException(name);
        }
    }
}
