import java.util.Arrays;
import java.util.NoSuchElementException;

/** A house with one telephone in the hall. What it must do is told, as numbered promises, in DOC.md. */
public final class HallPhone {
    /** Returned if there is no result. */
    public static final int NONE = -1;

    private static final int MAX_FLATS = 10;
    private static final int MAX_FLOOR = 9;
    private static final int MAX_MESSAGES = 8;
    private static final int MAX_CHANGES = 8;
    private static final int MAX_MINUTES = 99;
    private static final int MAX_LIMIT = 60;
    private static final int SNAPSHOTS = 2;
    private static final int BUFFER_ROOM = 700;
    private static final int BYTES_APPENDED = 20;

    /** How many minutes are looked ahead at most. */
    private static final int HORIZON = 500;

    /** What a flat is. */
    private static final int HOME = 0;
    private static final int COMING = 1;
    private static final int QUEUED = 2;
    private static final int SPEAKING = 3;

    /** What the telephone is. */
    private static final int FREE = 0;
    private static final int HELD = 1;
    private static final int BUSY = 2;

    /** The numbers of a flat, as flat() counts them; the place and the messages are not stored. */
    private static final int FLOOR = 0;
    private static final int CURIOUS = 1;
    private static final int STATE = 2;
    private static final int STEPS = 3;
    private static final int WISH = 4;
    private static final int PLACE = 5;
    private static final int DEBT = 6;
    private static final int TALKED = 7;
    private static final int ENDED = 8;
    private static final int MESSAGES = 9;
    private static final int WAITED = 10;
    private static final int FLAT_NUMBERS = 11;

    /** The settings, as setting() counts them. */
    private static final int LIMIT = 0;
    private static final int UNIT = 1;
    private static final int RATE = 2;
    private static final int EAR = 3;
    private static final int SECRET = 4;
    private static final int PATIENCE = 5;
    private static final int SETTINGS = 6;
    private static final int[] FIRST_SETTINGS = {0, 3, 4, 1, 5, 3};

    /** The accounts, as account() counts them; account 0 is TIME and account 10 is reckoned. */
    private static final int ACCOUNT_MINUTES = 0;
    private static final int ACCOUNT_ENDED = 1;
    private static final int ACCOUNT_CUT = 2;
    private static final int ACCOUNT_SPOKEN = 3;
    private static final int ACCOUNT_CHARGED = 4;
    private static final int ACCOUNT_PAID = 5;
    private static final int ACCOUNT_WRITTEN = 6;
    private static final int ACCOUNT_READ = 7;
    private static final int ACCOUNT_LOST = 8;
    private static final int ACCOUNT_HEARD = 9;
    private static final int ACCOUNT_BALANCE = 10;
    private static final int ACCOUNTS = 10;

    /** The numbers of the house, as size() counts them; the last three are not the house's own. */
    private static final int SIZE_LAST_OF_HOUSE = 10;
    private static final int SIZE_CHANGES = 11;
    private static final int SIZE_BUFFER = 12;
    private static final int SIZE_REPORT = 13;

    /** Why a deed is refused. */
    private static final int NOT_HOME = 2;
    private static final int NO_WISH = 3;
    private static final int NOT_SPEAKING = 4;
    private static final int NOT_FREE = 5;
    private static final int ABOVE_DEBT = 6;

    /** What comes of a call from outside. */
    private static final int RING_HELD = 0;
    private static final int RING_SPEAKING = 1;
    private static final int RING_MESSAGE = 2;
    private static final int RING_LOST = 3;

    /** Why a flat does not speak. */
    private static final int WHY_SPEAKS = 0;
    private static final int WHY_HOME = 1;
    private static final int WHY_COMING = 2;
    private static final int WHY_BUSY = 3;
    private static final int WHY_HELD = 4;
    private static final int WHY_QUEUED = 5;

    /** The errors of a text. */
    private static final int ERROR_TOKEN = 1;
    private static final int ERROR_RANGE = 2;
    private static final int ERROR_FLATS = 3;
    private static final int ERROR_REFUSED = 4;

    /** The built-in texts: each one literal, as texts are not joined by a plus sign. */
    private static final String TEXT_0 =
            "house 0 curious 1 3 2 curious 4; limit 6; ring 4 5; want 1 8; want 3 4; pass 3; want 0 10;";
    private static final String TEXT_1 =
            "house 1 curious 1 curious 5 0; unit 2; rate 10; secret 3; patience 2; want 2 9; ring 1 4; pass 8; want 3 30; pass 2; limit 6; pass 3; hang 3; ring 2 3; ring 3 5; pass 1; pay 2 12;";
    private static final String TEXT_2 =
            "house 9; rate 0; ear 0; patience 0; want 0 99; pass 20;";

    private final House house = new House();
    /** A second house, in which a text is tried and what would be is found out. */
    private final House draft = new House();
    private final History history = new History();
    private final House firstSnapshot = new House();
    private final House secondSnapshot = new House();
    /** The slots that hold a snapshot, as a sum of 2 to the power of each. */
    private int savedSlots = 0;
    private final Reader reader = new Reader();
    private final int[] buffer = new int[BUFFER_ROOM];
    private int bufferLength = 0;
    private final StringBuilder report = new StringBuilder();

    public HallPhone() {
        reader.takeText(TEXT_0);
        replaceByText();
    }

    // ---- texts

    public int append(int a, int b, int c, int d, int e) {
        if (bufferLength + BYTES_APPENDED > BUFFER_ROOM) {
            return NONE;
        }
        appendFourBytes(a);
        appendFourBytes(b);
        appendFourBytes(c);
        appendFourBytes(d);
        appendFourBytes(e);
        return bufferLength;
    }

    public int parse(int bytes) throws IllegalArgumentException {
        checkRange(bytes, 0, bufferLength);
        reader.takeBytes(buffer, bytes);
        bufferLength = 0;
        return replaceByText();
    }

    public int load(int text) throws IllegalArgumentException {
        checkRange(text, 0, 2);
        reader.takeText(text == 0 ? TEXT_0 : text == 1 ? TEXT_1 : TEXT_2);
        return replaceByText();
    }

    // ---- questions: they change nothing

    public int size(int what) throws IllegalArgumentException {
        checkRange(what, 0, SIZE_REPORT);
        switch (what) {
            case SIZE_CHANGES:
                return history.count;
            case SIZE_BUFFER:
                return bufferLength;
            case SIZE_REPORT:
                return report.length();
            default:
                return house.houseNumber(what);
        }
    }

    public int setting(int which) throws IllegalArgumentException {
        checkRange(which, 0, SETTINGS - 1);
        return house.settingNumber(which);
    }

    public int flat(int flat, int what) throws IndexOutOfBoundsException, IllegalArgumentException {
        checkFlat(flat);
        checkRange(what, 0, FLAT_NUMBERS - 1);
        return house.flatNumber(flat, what);
    }

    public int queued(int place) {
        return house.queue.at(place);
    }

    public int message(int message, int what) throws NoSuchElementException, IllegalArgumentException {
        if (message < 0 || message >= house.slate.length) {
            throw new NoSuchElementException("no such message");
        }
        checkRange(what, 0, 1);
        return what == 0 ? house.slate.flatAt(message) : house.slate.minuteAt(message);
    }

    public int heard(int flat, int other) throws IndexOutOfBoundsException {
        checkFlat(flat);
        checkFlat(other);
        return house.minutesHeard(flat, other);
    }

    public int knowing(int flat) throws IndexOutOfBoundsException {
        checkFlat(flat);
        return house.knowersOf(flat);
    }

    public int listening(int flat) throws IndexOutOfBoundsException {
        checkFlat(flat);
        return house.listenersOf(flat);
    }

    public int mostKnown() {
        int most = NONE;
        int mostKnowers = 0;
        for (int flat = 0; flat < house.flats; flat++) {
            int knowers = Integer.bitCount(house.knowersOf(flat));
            if (knowers > mostKnowers) {
                most = flat;
                mostKnowers = knowers;
            }
        }
        return most;
    }

    public int cost(int minutes) throws IllegalArgumentException {
        checkRange(minutes, 1, MAX_MINUTES);
        return house.costOf(minutes);
    }

    // ---- reasons and what would be

    public int why(int flat, int depth) throws IndexOutOfBoundsException, IllegalArgumentException {
        checkFlat(flat);
        checkRange(depth, 0, 1);
        int reason = house.reasonOf(flat);
        return depth == 0 ? reason : house.causeOf(flat, reason);
    }

    public int speaksIn(int flat) throws IndexOutOfBoundsException {
        checkFlat(flat);
        draft.copyFrom(house);
        return draft.minutesTillSpeaking(flat);
    }

    public int freeIn() {
        draft.copyFrom(house);
        return draft.minutesTillFree();
    }

    public int flatIn(int flat, int minutes) throws IndexOutOfBoundsException, IllegalArgumentException {
        checkFlat(flat);
        return later(minutes).get(flat, STATE);
    }

    public int debtIn(int flat, int minutes) throws IndexOutOfBoundsException, IllegalArgumentException {
        checkFlat(flat);
        return later(minutes).get(flat, DEBT);
    }

    public int waitIf(int flat) throws IndexOutOfBoundsException {
        checkFlat(flat);
        if (house.refusal(Verb.WANT, flat, MAX_MINUTES) != 0) {
            return NONE;
        }
        draft.copyFrom(house);
        // How long it would speak does not matter: it is looked at only till it speaks.
        draft.perform(Verb.WANT, flat, MAX_MINUTES);
        return draft.minutesTillSpeaking(flat);
    }

    public int bestLimit() {
        int waiting = house.flatsThatAre(COMING) | house.flatsThatAre(QUEUED);
        if (waiting == 0) {
            return NONE;
        }
        int best = NONE;
        int fewest = HORIZON + 1;
        for (int limit = 1; limit <= MAX_LIMIT; limit++) {
            draft.copyFrom(house);
            draft.changeSetting(LIMIT, limit);
            int minutes = draft.minutesTillAllSpoke(waiting, fewest);
            if (minutes < fewest) {
                best = limit;
                fewest = minutes;
            }
        }
        return best;
    }

    public int learnsIn(int flat, int minutes) throws IndexOutOfBoundsException, IllegalArgumentException {
        checkFlat(flat);
        return later(minutes).knownTo(flat) & ~house.knownTo(flat);
    }

    public int ifRung(int flat) throws IndexOutOfBoundsException {
        checkFlat(flat);
        int reason = house.refusal(Verb.RING, flat, 1);
        return reason != 0 ? reason : house.outcomeOfRing(flat);
    }

    public int account(int what) throws IllegalArgumentException {
        checkRange(what, 0, ACCOUNT_BALANCE);
        return house.accountNumber(what);
    }

    public double meanCall() {
        int calls = house.accountNumber(ACCOUNT_ENDED);
        return calls > 0 ? (double) house.minutesOfEndedCalls / (double) calls : 0.0;
    }

    public float busyShare() {
        int minutes = house.accountNumber(ACCOUNT_MINUTES);
        return minutes > 0 ? (float) house.accountNumber(ACCOUNT_SPOKEN) / (float) minutes : 0.0f;
    }

    // ---- reports

    public int writeHouse() {
        report.setLength(0);
        for (int flat = 0; flat < house.flats; flat++) {
            if (flat > 0) {
                report.append(' ');
            }
            report.append(flat);
            writeState(flat);
        }
        return report.length();
    }

    public int writeSlate() {
        report.setLength(0);
        for (int message = 0; message < house.slate.length; message++) {
            if (message > 0) {
                report.append(' ');
            }
            report.append(house.slate.flatAt(message)).append('@').append(house.slate.minuteAt(message));
        }
        if (report.length() == 0) {
            report.append('-');
        }
        return report.length();
    }

    public char reportAt(int index) {
        return index >= 0 && index < report.length() ? report.charAt(index) : (char) 0;
    }

    // ---- changes

    public int want(int flat, int minutes) throws IndexOutOfBoundsException, IllegalArgumentException {
        return changeOfFlat(Verb.WANT, flat, minutes);
    }

    public int drop(int flat) throws IndexOutOfBoundsException {
        return changeOfFlat(Verb.DROP, flat, 0);
    }

    public int hang(int flat) throws IndexOutOfBoundsException {
        return changeOfFlat(Verb.HANG, flat, 0);
    }

    public int ring(int flat, int minutes) throws IndexOutOfBoundsException, IllegalArgumentException {
        return changeOfFlat(Verb.RING, flat, minutes);
    }

    public int pay(int flat, int amount) throws IndexOutOfBoundsException, IllegalArgumentException {
        return changeOfFlat(Verb.PAY, flat, amount);
    }

    public boolean setCurious(int flat, boolean isCurious) throws IndexOutOfBoundsException {
        checkFlat(flat);
        boolean was = house.get(flat, CURIOUS) == 1;
        history.keep(house);
        house.put(flat, CURIOUS, isCurious ? 1 : 0);
        return was;
    }

    public int set(int which, int value) throws IllegalArgumentException {
        Verb verb = Verb.ofSetting(which);
        if (verb == null) {
            throw new IllegalArgumentException("no such setting");
        }
        checkRange(value, verb.least, verb.greatest);
        history.keep(house);
        return house.perform(verb, NONE, value);
    }

    public int pass(int minutes) throws IllegalArgumentException {
        checkRange(minutes, Verb.PASS.least, Verb.PASS.greatest);
        history.keep(house);
        return house.perform(Verb.PASS, NONE, minutes);
    }

    // ---- undo, snapshots

    public int undo() {
        return history.takeBack(house) ? history.count : NONE;
    }

    public boolean saveSnapshot(int slot) throws IllegalArgumentException {
        checkRange(slot, 0, SNAPSHOTS - 1);
        boolean was = isSaved(slot);
        snapshotIn(slot).copyFrom(house);
        savedSlots |= 1 << slot;
        return was;
    }

    public int restoreSnapshot(int slot) throws IllegalArgumentException, NoSuchElementException {
        checkRange(slot, 0, SNAPSHOTS - 1);
        if (!isSaved(slot)) {
            throw new NoSuchElementException("the slot is empty");
        }
        house.copyFrom(snapshotIn(slot));
        history.forget();
        return house.time;
    }

    public long checksum() {
        long sum = 0L;
        for (int what = 0; what <= SIZE_LAST_OF_HOUSE; what++) {
            sum = 31L * sum + house.houseNumber(what);
        }
        for (int which = 0; which < SETTINGS; which++) {
            sum = 31L * sum + house.settingNumber(which);
        }
        for (int flat = 0; flat < house.flats; flat++) {
            sum = checksumWithFlat(sum, flat);
        }
        for (int message = 0; message < house.slate.length; message++) {
            sum = 31L * sum + house.slate.flatAt(message);
            sum = 31L * sum + house.slate.minuteAt(message);
        }
        for (int what = 0; what < ACCOUNTS; what++) {
            sum = 31L * sum + house.accountNumber(what);
        }
        return sum;
    }

    // ---- what the calls above share

    private void checkFlat(int flat) {
        if (flat < 0 || flat >= house.flats) {
            throw new IndexOutOfBoundsException("no such flat");
        }
    }

    private static void checkRange(int number, int least, int greatest) {
        if (number < least || number > greatest) {
            throw new IllegalArgumentException("out of range");
        }
    }

    private void appendFourBytes(int four) {
        for (int shift = 24; shift >= 0; shift -= 8) {
            if (bufferLength >= 0 && bufferLength < buffer.length) {
                buffer[bufferLength] = (four >>> shift) & 255;
                bufferLength++;
            }
        }
    }

    /** Does the text that the reader has taken in the draft, and takes the draft over if it has no error. */
    private int replaceByText() {
        draft.clear();
        boolean goesOn = reader.readFlats(draft);
        // A statement has more than one byte, so there are fewer of them than bytes in the buffer.
        for (int statement = 0; goesOn && statement < BUFFER_ROOM; statement++) {
            goesOn = reader.readStatement(draft.flats);
            Verb verb = reader.verb;
            if (goesOn && verb != null) {
                if (draft.refusal(verb, reader.flat, reader.amount) == 0) {
                    draft.perform(verb, reader.flat, reader.amount);
                } else {
                    goesOn = reader.fail(ERROR_REFUSED);
                }
            }
        }
        if (reader.error != 0) {
            return -2 - reader.error;
        }
        house.copyFrom(draft);
        history.forget();
        savedSlots = 0;
        return house.flats;
    }

    private boolean isSaved(int slot) {
        return (savedSlots & 1 << slot) != 0;
    }

    private House snapshotIn(int slot) {
        return slot == 0 ? firstSnapshot : secondSnapshot;
    }

    private House later(int minutes) {
        checkRange(minutes, 0, HORIZON);
        draft.copyFrom(house);
        draft.letPass(minutes);
        return draft;
    }

    private int changeOfFlat(Verb verb, int flat, int number) {
        checkFlat(flat);
        checkRange(number, verb.least, verb.greatest);
        int reason = house.refusal(verb, flat, number);
        if (reason != 0) {
            return -reason;
        }
        history.keep(house);
        return house.perform(verb, flat, number);
    }

    private void writeState(int flat) {
        switch (house.get(flat, STATE)) {
            case HOME:
                report.append('.');
                break;
            case COMING:
                report.append('<').append(house.get(flat, STEPS));
                break;
            case QUEUED:
                report.append('#').append(house.queue.placeOf(flat));
                break;
            default:
                report.append('!').append(house.phone.left);
                break;
        }
    }

    private long checksumWithFlat(long before, int flat) {
        long sum = before;
        for (int what = 0; what < FLAT_NUMBERS; what++) {
            sum = 31L * sum + house.flatNumber(flat, what);
        }
        for (int other = 0; other < house.flats; other++) {
            sum = 31L * sum + house.minutesHeard(flat, other);
        }
        return sum;
    }

    private static void copyRow(int[] from, int[] to) {
        System.arraycopy(from, 0, to, 0, Math.min(from.length, to.length));
    }

    /** What a statement of a text, or a call below "changes", can ask for. */
    private enum Verb {
        LIMIT("limit", HallPhone.LIMIT, false, 0, MAX_LIMIT),
        UNIT("unit", HallPhone.UNIT, false, 1, 30),
        RATE("rate", HallPhone.RATE, false, 0, 99),
        EAR("ear", HallPhone.EAR, false, 0, 9),
        SECRET("secret", HallPhone.SECRET, false, 1, 99),
        PATIENCE("patience", HallPhone.PATIENCE, false, 0, 20),
        WANT("want", NONE, true, 1, MAX_MINUTES),
        DROP("drop", NONE, true, 0, 0),
        HANG("hang", NONE, true, 0, 0),
        RING("ring", NONE, true, 1, MAX_MINUTES),
        PAY("pay", NONE, true, 1, 9999),
        PASS("pass", NONE, false, 1, 999);

        private static final Verb[] ALL = values();

        private final String word;
        private final int setting;
        private final boolean namesFlat;
        private final int least;
        private final int greatest;

        Verb(String word, int setting, boolean namesFlat, int least, int greatest) {
            this.word = word;
            this.setting = setting;
            this.namesFlat = namesFlat;
            this.least = least;
            this.greatest = greatest;
        }

        private boolean takesNumber() {
            return greatest > 0;
        }

        /** The verb that changes a setting; null if there is no such setting. */
        private static Verb ofSetting(int which) {
            for (Verb verb : ALL) {
                if (verb.setting == which && which != NONE) {
                    return verb;
                }
            }
            return null;
        }
    }

    /** The telephone in the hall. */
    private static final class Phone {
        private int state = FREE;
        private int flat = NONE;
        private int spoken = 0;
        /** While it is HELD: the minutes that the call from outside will last. */
        private int left = 0;
        private boolean isFromOutside = false;

        private void putDown() {
            state = FREE;
            flat = NONE;
            spoken = 0;
            left = 0;
            isFromOutside = false;
        }

        private void holdFor(int called, int minutes) {
            state = HELD;
            flat = called;
            spoken = 0;
            left = minutes;
            isFromOutside = true;
        }

        private void connect(int speaker, int minutes, boolean fromOutside) {
            state = BUSY;
            flat = speaker;
            spoken = 0;
            left = minutes;
            isFromOutside = fromOutside;
        }

        private void copyFrom(Phone other) {
            state = other.state;
            flat = other.flat;
            spoken = other.spoken;
            left = other.left;
            isFromOutside = other.isFromOutside;
        }
    }

    /** The flats that wait in the hall, the first one first. */
    private static final class Queue {
        private final int[] flats = new int[MAX_FLATS];
        private int length = 0;

        private int at(int place) {
            return place >= 0 && place < length && place < flats.length ? flats[place] : NONE;
        }

        private int placeOf(int flat) {
            for (int place = 0; place < length && place < flats.length; place++) {
                if (flats[place] == flat) {
                    return place;
                }
            }
            return NONE;
        }

        private void join(int flat) {
            if (length >= 0 && length < flats.length) {
                flats[length] = flat;
                length++;
            }
        }

        private void leave(int flat) {
            int kept = 0;
            for (int place = 0; place < length && place < flats.length; place++) {
                if (flats[place] != flat && kept <= place) {
                    flats[kept] = flats[place];
                    kept++;
                }
            }
            length = kept;
        }

        private void copyFrom(Queue other) {
            copyRow(other.flats, flats);
            length = other.length;
        }
    }

    /** The messages, in the order in which they were written. */
    private static final class Slate {
        private final int[] flats = new int[MAX_MESSAGES];
        private final int[] minutes = new int[MAX_MESSAGES];
        private int length = 0;

        private int flatAt(int message) {
            return message >= 0 && message < flats.length ? flats[message] : NONE;
        }

        private int minuteAt(int message) {
            return message >= 0 && message < minutes.length ? minutes[message] : NONE;
        }

        private int countFor(int flat) {
            int count = 0;
            for (int message = 0; message < length; message++) {
                if (flatAt(message) == flat) {
                    count++;
                }
            }
            return count;
        }

        private void write(int flat, int minute) {
            if (length >= 0 && length < flats.length && length < minutes.length) {
                flats[length] = flat;
                minutes[length] = minute;
                length++;
            }
        }

        /** Wipes the messages for a flat off; returns how many there were. */
        private int wipeFor(int flat) {
            int kept = 0;
            int before = length;
            for (int message = 0; message < before && message < flats.length && message < minutes.length; message++) {
                if (flats[message] != flat && kept <= message) {
                    flats[kept] = flats[message];
                    minutes[kept] = minutes[message];
                    kept++;
                }
            }
            length = kept;
            return before - kept;
        }

        private void copyFrom(Slate other) {
            copyRow(other.flats, flats);
            copyRow(other.minutes, minutes);
            length = other.length;
        }
    }

    /** All that a snapshot and undo concern. */
    private static final class House {
        private int flats = 0;
        private int time = 0;
        private int minutesOfEndedCalls = 0;
        private final int[] settings = new int[SETTINGS];
        private final int[] accounts = new int[ACCOUNTS];
        /** FLAT_NUMBERS numbers of each flat, flat by flat. */
        private final int[] numbers = new int[MAX_FLATS * FLAT_NUMBERS];
        /** For each flat what it heard of each other one. */
        private final int[] hearing = new int[MAX_FLATS * MAX_FLATS];
        private final Phone phone = new Phone();
        private final Queue queue = new Queue();
        private final Slate slate = new Slate();

        /** Leaves a house without flats, as it is ahead of a text. */
        private void clear() {
            flats = 0;
            time = 0;
            minutesOfEndedCalls = 0;
            copyRow(FIRST_SETTINGS, settings);
            Arrays.fill(accounts, 0);
            Arrays.fill(numbers, 0);
            Arrays.fill(hearing, 0);
            phone.putDown();
            queue.length = 0;
            slate.length = 0;
        }

        private void copyFrom(House other) {
            flats = other.flats;
            time = other.time;
            minutesOfEndedCalls = other.minutesOfEndedCalls;
            copyRow(other.settings, settings);
            copyRow(other.accounts, accounts);
            copyRow(other.numbers, numbers);
            copyRow(other.hearing, hearing);
            phone.copyFrom(other.phone);
            queue.copyFrom(other.queue);
            slate.copyFrom(other.slate);
        }

        // ---- single numbers

        private int get(int flat, int what) {
            int cell = flat * FLAT_NUMBERS + what;
            return cell >= 0 && cell < numbers.length ? numbers[cell] : 0;
        }

        private void put(int flat, int what, int number) {
            int cell = flat * FLAT_NUMBERS + what;
            if (cell >= 0 && cell < numbers.length) {
                numbers[cell] = number;
            }
        }

        private int settingNumber(int which) {
            return which >= 0 && which < settings.length ? settings[which] : 0;
        }

        private int changeSetting(int which, int value) {
            int previous = settingNumber(which);
            if (which >= 0 && which < settings.length) {
                settings[which] = value;
            }
            return previous;
        }

        private int minutesHeard(int flat, int other) {
            int cell = flat * MAX_FLATS + other;
            return cell >= 0 && cell < hearing.length ? hearing[cell] : 0;
        }

        private void hearOneMinute(int flat, int other) {
            int cell = flat * MAX_FLATS + other;
            if (cell >= 0 && cell < hearing.length) {
                hearing[cell]++;
                accounts[ACCOUNT_HEARD]++;
            }
        }

        private boolean addFlat(int floor) {
            if (flats >= MAX_FLATS) {
                return false;
            }
            put(flats, FLOOR, floor);
            flats++;
            return true;
        }

        // ---- questions

        private int houseNumber(int what) {
            switch (what) {
                case 0:
                    return flats;
                case 1:
                    return time;
                case 2:
                    return phone.state;
                case 3:
                    return phone.flat;
                case 4:
                    return phone.spoken;
                case 5:
                    return phone.state == BUSY ? phone.left : 0;
                case 6:
                    return phone.isFromOutside ? 1 : 0;
                case 7:
                    return queue.length;
                case 8:
                    return Integer.bitCount(flatsThatAre(COMING));
                case 9:
                    return slate.length;
                default:
                    return debtOfAll();
            }
        }

        private int flatNumber(int flat, int what) {
            switch (what) {
                case PLACE:
                    return queue.placeOf(flat);
                case MESSAGES:
                    return slate.countFor(flat);
                default:
                    return get(flat, what);
            }
        }

        private int accountNumber(int what) {
            if (what == ACCOUNT_MINUTES) {
                return time;
            }
            if (what == ACCOUNT_BALANCE) {
                return accounts[ACCOUNT_CHARGED] - accounts[ACCOUNT_PAID] - debtOfAll()
                        + accounts[ACCOUNT_WRITTEN] - accounts[ACCOUNT_READ] - slate.length;
            }
            return what >= 0 && what < accounts.length ? accounts[what] : 0;
        }

        private int debtOfAll() {
            int debt = 0;
            for (int flat = 0; flat < flats; flat++) {
                debt += get(flat, DEBT);
            }
            return debt;
        }

        private int flatsThatAre(int state) {
            int set = 0;
            for (int flat = 0; flat < flats; flat++) {
                if (get(flat, STATE) == state) {
                    set |= 1 << flat;
                }
            }
            return set;
        }

        private boolean isListener(int flat) {
            return get(flat, STATE) == HOME && get(flat, CURIOUS) == 1 && get(flat, FLOOR) <= settings[EAR];
        }

        private int listenersOf(int speaker) {
            int set = 0;
            for (int flat = 0; flat < flats; flat++) {
                if (flat != speaker && isListener(flat)) {
                    set |= 1 << flat;
                }
            }
            return set;
        }

        private int knowersOf(int other) {
            int set = 0;
            for (int flat = 0; flat < flats; flat++) {
                if (minutesHeard(flat, other) >= settings[SECRET]) {
                    set |= 1 << flat;
                }
            }
            return set;
        }

        private int knownTo(int flat) {
            int set = 0;
            for (int other = 0; other < flats; other++) {
                if (minutesHeard(flat, other) >= settings[SECRET]) {
                    set |= 1 << other;
                }
            }
            return set;
        }

        private int costOf(int minutes) {
            int unit = settings[UNIT];
            return unit > 0 ? settings[RATE] * ((minutes + unit - 1) / unit) : 0;
        }

        private int reasonOf(int flat) {
            switch (get(flat, STATE)) {
                case SPEAKING:
                    return WHY_SPEAKS;
                case HOME:
                    return WHY_HOME;
                case COMING:
                    return WHY_COMING;
                default:
                    return phone.state == BUSY ? WHY_BUSY : phone.state == HELD ? WHY_HELD : WHY_QUEUED;
            }
        }

        private int causeOf(int flat, int reason) {
            switch (reason) {
                case WHY_SPEAKS:
                    return phone.spoken;
                case WHY_HOME:
                    return slate.countFor(flat);
                case WHY_COMING:
                    return get(flat, STEPS);
                case WHY_QUEUED:
                    return queue.placeOf(flat);
                default:
                    return phone.flat;
            }
        }

        // ---- minutes

        /** Lets minutes pass; returns how many calls ended in them. */
        private int letPass(int minutes) {
            int ended = 0;
            time += minutes;
            // The steps of a minute do not look at TIME, and change nothing in a quiet house.
            for (int minute = 0; minute < minutes && !isQuiet(); minute++) {
                if (phone.state == BUSY) {
                    speakOneMinute();
                }
                for (int flat = 0; flat < flats; flat++) {
                    comeDown(flat);
                }
                if (isCallOver()) {
                    accounts[ACCOUNT_CUT] += phone.left > 0 ? 1 : 0;
                    endCall();
                    ended++;
                }
                if (phone.state == FREE && queue.length > 0) {
                    int first = queue.at(0);
                    connect(first, get(first, WISH), false);
                }
                countWaiting();
            }
            return ended;
        }

        private void speakOneMinute() {
            phone.spoken++;
            phone.left--;
            accounts[ACCOUNT_SPOKEN]++;
            put(phone.flat, TALKED, get(phone.flat, TALKED) + 1);
            for (int flat = 0; flat < flats; flat++) {
                if (isListener(flat)) {
                    hearOneMinute(flat, phone.flat);
                }
            }
        }

        private void comeDown(int flat) {
            if (get(flat, STATE) != COMING) {
                return;
            }
            int steps = get(flat, STEPS) - 1;
            put(flat, STEPS, steps);
            if (steps > 0) {
                return;
            }
            accounts[ACCOUNT_READ] += slate.wipeFor(flat);
            if (isCalled(flat)) {
                connect(flat, phone.left, true);
            } else {
                put(flat, STATE, QUEUED);
                queue.join(flat);
            }
        }

        private boolean isCalled(int flat) {
            return phone.state == HELD && phone.flat == flat;
        }

        private boolean isCallOver() {
            int limit = settings[LIMIT];
            boolean isTooLong = limit > 0 && phone.spoken >= limit && queue.length > 0;
            return phone.state == BUSY && (phone.left <= 0 || isTooLong);
        }

        private int endCall() {
            int flat = phone.flat;
            int spoken = phone.spoken;
            int cost = phone.isFromOutside ? 0 : costOf(spoken);
            put(flat, STATE, HOME);
            put(flat, DEBT, get(flat, DEBT) + cost);
            put(flat, ENDED, get(flat, ENDED) + 1);
            accounts[ACCOUNT_ENDED]++;
            accounts[ACCOUNT_CHARGED] += cost;
            minutesOfEndedCalls += spoken;
            phone.putDown();
            return spoken;
        }

        private void connect(int flat, int minutes, boolean fromOutside) {
            queue.leave(flat);
            put(flat, STATE, SPEAKING);
            put(flat, WISH, 0);
            phone.connect(flat, minutes, fromOutside);
        }

        private void countWaiting() {
            for (int place = 0; place < queue.length; place++) {
                int flat = queue.at(place);
                put(flat, WAITED, get(flat, WAITED) + 1);
            }
        }

        /** Whether nothing but TIME would change, however many minutes passed. */
        private boolean isQuiet() {
            return phone.state == FREE && queue.length == 0 && flatsThatAre(COMING) == 0;
        }

        // ---- what would be: these let minutes pass in this house

        private int minutesTillSpeaking(int flat) {
            for (int minutes = 0; minutes <= HORIZON && !isQuiet(); minutes++) {
                if (get(flat, STATE) == SPEAKING) {
                    return minutes;
                }
                letPass(1);
            }
            return NONE;
        }

        private int minutesTillFree() {
            for (int minutes = 0; minutes <= HORIZON; minutes++) {
                if (phone.state == FREE) {
                    return minutes;
                }
                letPass(1);
            }
            return NONE;
        }

        /** In how many minutes all flats of a set will have been SPEAKING; bound if not in fewer than bound. */
        private int minutesTillAllSpoke(int set, int bound) {
            int silent = set;
            for (int minutes = 1; minutes < bound && minutes <= HORIZON; minutes++) {
                letPass(1);
                silent &= ~flatsThatAre(SPEAKING);
                if (silent == 0) {
                    return minutes;
                }
            }
            return bound;
        }

        // ---- deeds

        /** The reason by which a deed is refused; 0 if it is not. */
        private int refusal(Verb verb, int flat, int number) {
            int state = get(flat, STATE);
            switch (verb) {
                case WANT:
                    return state == HOME ? 0 : NOT_HOME;
                case DROP:
                    return state == QUEUED || state == COMING && !isCalled(flat) ? 0 : NO_WISH;
                case HANG:
                    return state == SPEAKING ? 0 : NOT_SPEAKING;
                case RING:
                    return phone.state == FREE ? 0 : NOT_FREE;
                case PAY:
                    return number <= get(flat, DEBT) ? 0 : ABOVE_DEBT;
                default:
                    return 0;
            }
        }

        /** Does a deed that is not refused, or changes a setting; returns what the method of the face returns. */
        private int perform(Verb verb, int flat, int number) {
            switch (verb) {
                case WANT:
                    return setOut(flat, number);
                case DROP:
                    return giveUp(flat);
                case HANG:
                    return endCall();
                case RING:
                    return takeRing(flat, number);
                case PAY:
                    return takeMoney(flat, number);
                case PASS:
                    return letPass(number);
                default:
                    return changeSetting(verb.setting, number);
            }
        }

        private int setOut(int flat, int wish) {
            int steps = 1 + get(flat, FLOOR);
            put(flat, STATE, COMING);
            put(flat, STEPS, steps);
            put(flat, WISH, wish);
            return steps;
        }

        private int giveUp(int flat) {
            int wish = get(flat, WISH);
            queue.leave(flat);
            put(flat, STATE, HOME);
            put(flat, STEPS, 0);
            put(flat, WISH, 0);
            return wish;
        }

        /** What would come of a call from outside, if the telephone is FREE. */
        private int outcomeOfRing(int flat) {
            int state = get(flat, STATE);
            if (state == HOME && get(flat, FLOOR) <= settings[PATIENCE]) {
                return RING_HELD;
            }
            if (state == QUEUED) {
                return RING_SPEAKING;
            }
            return slate.length < MAX_MESSAGES ? RING_MESSAGE : RING_LOST;
        }

        private int takeRing(int flat, int minutes) {
            int outcome = outcomeOfRing(flat);
            switch (outcome) {
                case RING_HELD:
                    setOut(flat, 0);
                    phone.holdFor(flat, minutes);
                    break;
                case RING_SPEAKING:
                    connect(flat, minutes, true);
                    break;
                case RING_MESSAGE:
                    slate.write(flat, time);
                    accounts[ACCOUNT_WRITTEN]++;
                    break;
                default:
                    accounts[ACCOUNT_LOST]++;
                    break;
            }
            return outcome;
        }

        private int takeMoney(int flat, int amount) {
            int debt = get(flat, DEBT) - amount;
            put(flat, DEBT, debt);
            accounts[ACCOUNT_PAID] += amount;
            return debt;
        }
    }

    /** The houses as they were ahead of the latest changes. */
    private static final class History {
        private final House[] past = new House[MAX_CHANGES];
        /** Where the next one is kept; behind the last place the first one follows. */
        private int next = 0;
        private int count = 0;

        private History() {
            for (int place = 0; place < past.length; place++) {
                past[place] = new House();
            }
        }

        private void keep(House house) {
            if (next >= 0 && next < past.length && past[next] != null) {
                past[next].copyFrom(house);
                next = next + 1 < MAX_CHANGES ? next + 1 : 0;
                count = Math.min(count + 1, MAX_CHANGES);
            }
        }

        /** Makes a house what it was ahead of the latest change; false if there is none. */
        private boolean takeBack(House house) {
            int latest = next > 0 ? next - 1 : MAX_CHANGES - 1;
            if (count == 0 || latest >= past.length || past[latest] == null) {
                return false;
            }
            house.copyFrom(past[latest]);
            next = latest;
            count--;
            return true;
        }

        private void forget() {
            next = 0;
            count = 0;
        }
    }

    /** Reads a text token by token; the first error ends the reading, so it has the smallest offset. */
    private static final class Reader {
        private static final int END = 0;
        private static final int SEMICOLON = 1;
        private static final int WORD = 2;
        private static final int NUMBER = 3;
        private static final int INVALID = 4;
        private static final int MAX_DIGITS = 4;

        private final int[] bytes = new int[BUFFER_ROOM];
        private int length = 0;
        private int at = 0;
        /** The token that was read last. */
        private int kind = END;
        private int start = 0;
        private int number = 0;
        /** The statement that was read last. */
        private Verb verb = null;
        private int flat = NONE;
        private int amount = 0;
        /** 8 * offset + code of the error; 0 without one. */
        private int error = 0;

        private void takeBytes(int[] from, int count) {
            copyRow(from, bytes);
            begin(count);
        }

        private void takeText(String text) {
            for (int i = 0; i < text.length() && i < bytes.length; i++) {
                bytes[i] = text.charAt(i);
            }
            begin(text.length());
        }

        private void begin(int count) {
            length = Math.min(count, bytes.length);
            at = 0;
            error = 0;
        }

        /** Reads "house" flat { flat } ";" into a house; false if there is an error. */
        private boolean readFlats(House house) {
            next();
            if (!isWord("house")) {
                return fail(ERROR_TOKEN);
            }
            next();
            if (kind != NUMBER) {
                return fail(ERROR_TOKEN);
            }
            for (int read = 0; read <= MAX_FLATS && kind == NUMBER; read++) {
                if (number > MAX_FLOOR) {
                    return fail(ERROR_RANGE);
                }
                if (!house.addFlat(number)) {
                    return fail(ERROR_FLATS);
                }
                next();
                if (isWord("curious")) {
                    house.put(read, CURIOUS, 1);
                    next();
                }
            }
            return kind == SEMICOLON || fail(ERROR_TOKEN);
        }

        /** Reads statement ";" for a house of some flats; false if there is an error or the text is at its end. */
        private boolean readStatement(int flats) {
            next();
            if (kind == END) {
                return false;
            }
            Verb read = verbRead();
            if (read == null) {
                return fail(ERROR_TOKEN);
            }
            verb = read;
            flat = NONE;
            if (read.namesFlat) {
                if (!readNumber(0, flats - 1)) {
                    return false;
                }
                flat = number;
            }
            amount = 0;
            if (read.takesNumber()) {
                if (!readNumber(read.least, read.greatest)) {
                    return false;
                }
                amount = number;
            }
            next();
            return kind == SEMICOLON || fail(ERROR_TOKEN);
        }

        private boolean readNumber(int least, int greatest) {
            next();
            if (kind != NUMBER) {
                return fail(ERROR_TOKEN);
            }
            return number >= least && number <= greatest || fail(ERROR_RANGE);
        }

        /** Notes an error at the token that was read last. */
        private boolean fail(int code) {
            error = 8 * start + code;
            return false;
        }

        private Verb verbRead() {
            for (Verb each : Verb.ALL) {
                if (isWord(each.word)) {
                    return each;
                }
            }
            return null;
        }

        private boolean isWord(String word) {
            if (kind != WORD || at - start != word.length()) {
                return false;
            }
            for (int i = 0; i < word.length(); i++) {
                if (byteAt(start + i) != word.charAt(i)) {
                    return false;
                }
            }
            return true;
        }

        private void next() {
            while (at < length && isSpace(byteAt(at))) {
                at++;
            }
            start = at;
            if (at >= length) {
                kind = END;
            } else if (isLetter(byteAt(at))) {
                kind = WORD;
                while (at < length && isLetter(byteAt(at))) {
                    at++;
                }
            } else if (isDigit(byteAt(at))) {
                nextNumber();
            } else {
                kind = byteAt(at) == ';' ? SEMICOLON : INVALID;
                at++;
            }
        }

        private void nextNumber() {
            number = 0;
            while (at < length && isDigit(byteAt(at))) {
                // The digits behind the fourth make the token invalid, and could make the number overflow.
                if (at - start < MAX_DIGITS) {
                    number = 10 * number + byteAt(at) - '0';
                }
                at++;
            }
            kind = at - start <= MAX_DIGITS ? NUMBER : INVALID;
        }

        private int byteAt(int index) {
            return index >= 0 && index < bytes.length ? bytes[index] : NONE;
        }

        private static boolean isSpace(int b) {
            return b == 32 || b == 10;
        }

        private static boolean isLetter(int b) {
            return b >= 'a' && b <= 'z';
        }

        private static boolean isDigit(int b) {
            return b >= '0' && b <= '9';
        }
    }
}
