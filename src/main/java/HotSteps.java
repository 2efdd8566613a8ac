import java.util.Arrays;
import java.util.NoSuchElementException;

/** The rules of a bathhouse; ../shared/DOC.md says what each call promises. */
public final class HotSteps {
    public static final int NONE = -1;

    private static final String FIRST_SETUP =
            "bath 4 6 5 2 4 2 20 5; guest ada 34; guest ben 8; guest cai 61; guest dov 15; guest eli 22";

    private static final int REFUSED = -2;
    private static final int NOT_ON_STEP = -3;
    private static final int IS_OUT = -4;
    private static final int TOO_LATE = -5;
    private static final int TEXT_ERROR = -20;

    private static final int MOST_AHEAD = 200;
    private static final int LAST_TIME = 9999;

    private final House house;
    private final House draft;
    private final Text text;
    private final State now;
    private final Why reasons;
    private final Deeds deeds;
    private final Script script;
    private final History history;
    private final Report written;
    private int errorAt;

    public HotSteps() {
        house = new House();
        draft = new House();
        text = new Text();
        now = new State(house);
        reasons = new Why(house, now);
        deeds = new Deeds(house, now, reasons);
        script = new Script(house, deeds);
        history = new History(house);
        written = new Report(house);
        errorAt = NONE;
        text.appendText(FIRST_SETUP);
        house.read(text);
        text.clear();
        now.begin();
    }

    // ---- texts

    public int feed(int a, int b, int c, int d, int e) {
        int more = Text.bytesIn(a) + Text.bytesIn(b) + Text.bytesIn(c) + Text.bytesIn(d) + Text.bytesIn(e);
        if (text.length + more > Text.MOST_BYTES) {
            return NONE;
        }
        text.append(a);
        text.append(b);
        text.append(c);
        text.append(d);
        text.append(e);
        return text.length;
    }

    public int load() {
        draft.read(text);
        endReading();
        if (text.error != 0) {
            return TEXT_ERROR - text.error;
        }
        house.copyFrom(draft);
        now.begin();
        deeds.refused = 0;
        history.forgetAll();
        return house.guests;
    }

    public int play() {
        script.clear();
        text.rewind();
        script.readOrders(text, 0);
        text.needEnd();
        endReading();
        if (text.error != 0) {
            return TEXT_ERROR - text.error;
        }
        history.record(now);
        script.runOrders(0, script.count, 0);
        return script.done;
    }

    public int errorPosition() {
        return errorAt;
    }

    // ---- as it is now

    public int size(int what) throws IllegalArgumentException {
        switch (what) {
            case 0: return house.guests;
            case 1: return house.lockers;
            case 2: return house.pegs;
            case 3: return house.towels;
            case 4: return house.valves;
            case 5: return house.steps;
            case 6: return now.room;
            case 7: return now.gong;
            case 8: return now.quiet;
            case 9: return now.time;
            case 10: return now.heat;
            case 11: return now.guestsInside();
            case 12: return now.guestsInside() - now.guestsAt(State.HALL);
            case 13: return now.towelsInBasket();
            case 14: return house.lockers - now.lockersInUse();
            case 15: return now.isSilence() ? 1 : 0;
            case 16: return history.count;
            default: throw new IllegalArgumentException("no such size");
        }
    }

    public int guest(int guest, int what) throws IllegalArgumentException {
        need(house.isGuest(guest));
        switch (what) {
            case 0: return house.age[guest];
            case 1: return now.place[guest];
            case 2: return now.lockerOf[guest];
            case 3: return now.towelOf[guest];
            case 4: return now.strain[guest];
            case 5: return now.warnings[guest];
            case 6: return house.bears(guest);
            case 7: return house.highestByAge(guest);
            case 8: return now.sentDay[guest];
            default: throw new IllegalArgumentException("no such number of a guest");
        }
    }

    public int towel(int towel, int what) throws IllegalArgumentException {
        need(house.isTowel(towel));
        switch (what) {
            case 0: return now.wet[towel];
            case 1: return now.pegOf[towel];
            case 2: return now.holderOf[towel];
            case 3: return now.isInBasket(towel) ? 1 : 0;
            default: throw new IllegalArgumentException("no such number of a towel");
        }
    }

    public int peg(int peg) throws IllegalArgumentException {
        need(house.isPeg(peg));
        return now.towelOn[peg];
    }

    public int locker(int locker) throws IllegalArgumentException {
        need(house.isLocker(locker));
        return now.keyHolder[locker];
    }

    public int opening(int valve) throws IllegalArgumentException {
        need(house.isValve(valve));
        return now.openings[valve];
    }

    public int step(int step, int what) throws IllegalArgumentException {
        need(house.isStep(step));
        switch (what) {
            case 0: return now.guestsAt(step);
            case 1: return now.temperature(step);
            case 2: return House.ageFor(step);
            case 3: return now.eldestAt(step);
            case 4: return now.strainedAt(step);
            default: throw new IllegalArgumentException("no such number of a step");
        }
    }

    public int driest() {
        return now.driestOnPegs();
    }

    public int letter(int guest, int i) throws IllegalArgumentException {
        need(house.isGuest(guest));
        return house.letterOf(guest, i);
    }

    public int find() {
        return house.guestNamed(text, 0, text.length);
    }

    public int why(int guest, int deed, int depth) throws IllegalArgumentException {
        need(house.isGuest(guest));
        need(reasons.isDeed(deed));
        need(depth == 0 || depth == 1);
        return depth == 0 ? reasons.reason(guest, deed) : reasons.cause(guest, deed);
    }

    public int highest(int guest) throws IllegalArgumentException {
        need(house.isGuest(guest));
        for (int step = house.steps; step >= 1; step--) {
            if (reasons.reason(guest, Why.SIT + step) == 0) {
                return step;
            }
        }
        return 0;
    }

    public int account(int what) throws IllegalArgumentException {
        need(what >= 0 && what <= State.ACCOUNTS);
        return what < State.ACCOUNTS ? now.accounts[what] : deeds.refused;
    }

    public int gap() {
        int inside = now.guestsInside();
        int towels = house.towels - now.towelsOnPegs() - now.towelsWithGuests() - now.towelsInBasket();
        int visits = now.accounts[State.ENTERED] - now.accounts[State.LEFT] - inside;
        int keys = now.lockersInUse() - inside;
        return Math.abs(towels) + now.pegsUntold() + Math.abs(visits) + Math.abs(keys);
    }

    public double meanWet() {
        if (house.towels <= 0) {
            return 0.0;
        }
        return (double) now.allWet() / (double) house.towels;
    }

    public int heatBits() {
        return bitsOf((float) now.heat / 100.0f);
    }

    // ---- what will be

    public int heatIn(int minutes) throws IllegalArgumentException {
        need(minutes >= 0 && minutes <= MOST_AHEAD);
        int heat = now.heat;
        for (int i = 0; i < minutes; i++) {
            heat = State.heatBehind(heat, now.steam());
        }
        return heat;
    }

    public int downIn(int guest) throws IllegalArgumentException {
        need(house.isGuest(guest));
        int step = now.place[guest];
        if (!house.isStep(step)) {
            return 0;
        }
        int heat = now.heat;
        int strain = now.strain[guest];
        for (int minute = 1; minute <= MOST_AHEAD; minute++) {
            heat = State.heatBehind(heat, now.steam());
            strain = State.strainBehind(strain, heat + State.WARMER * step - house.bears(guest));
            if (strain >= State.TOO_MUCH) {
                return minute;
            }
        }
        return NONE;
    }

    public int dryIn(int towel) throws IllegalArgumentException {
        need(house.isTowel(towel));
        int wet = now.wet[towel];
        if (wet == 0) {
            return 0;
        }
        // as only minutes pass, no towel dries but on its peg
        if (!house.isPeg(now.pegOf[towel])) {
            return NONE;
        }
        int heat = now.heat;
        for (int minute = 1; minute <= MOST_AHEAD; minute++) {
            heat = State.heatBehind(heat, now.steam());
            wet = State.wetOnPegBehind(wet, heat);
            if (wet == 0) {
                return minute;
            }
        }
        return NONE;
    }

    public int silenceIn() {
        if (now.isSilence()) {
            return 0;
        }
        // a silence that is over comes back by no minute but that of the next gong
        return now.quiet > 0 ? now.minutesToGong() : NONE;
    }

    public int ifValve(int valve, int opening) throws IllegalArgumentException {
        need(house.isValve(valve));
        need(isOpening(opening));
        return State.heatBehind(now.heat, now.steam() - now.openings[valve] + opening);
    }

    // ---- changes

    public int enter(int guest) throws IllegalArgumentException {
        need(house.isGuest(guest));
        return change(Order.ENTER, guest, 0);
    }

    public int sit(int guest, int step) throws IllegalArgumentException {
        need(house.isGuest(guest));
        need(house.isStep(step));
        return change(Order.SIT, guest, step);
    }

    public int hall(int guest) throws IllegalArgumentException {
        need(house.isGuest(guest));
        return change(Order.HALL, guest, 0);
    }

    public int hang(int guest, int peg) throws IllegalArgumentException {
        need(house.isGuest(guest));
        need(house.isPeg(peg));
        return change(Order.HANG, guest, peg);
    }

    public int take(int guest, int peg) throws IllegalArgumentException {
        need(house.isGuest(guest));
        need(house.isPeg(peg));
        return change(Order.TAKE, guest, peg);
    }

    public int leave(int guest) throws IllegalArgumentException {
        need(house.isGuest(guest));
        return change(Order.LEAVE, guest, 0);
    }

    public int speak(int guest) throws IllegalArgumentException {
        need(house.isGuest(guest));
        return change(Order.SPEAK, guest, 0);
    }

    public int wash() {
        return change(Order.WASH, 0, 0);
    }

    public int valve(int valve, int opening) throws IllegalArgumentException {
        need(house.isValve(valve));
        need(isOpening(opening));
        return change(Order.VALVE, valve, opening);
    }

    public int waits(int minutes) throws IllegalArgumentException {
        need(minutes >= 1 && minutes <= 60);
        return change(Order.WAIT, 0, minutes);
    }

    public int set(int what, int value) throws IllegalArgumentException {
        need(isSetting(what, value));
        history.record(now);
        int before = size(what);
        if (what == 6) {
            now.room = value;
        } else if (what == 7) {
            now.gong = value;
        } else {
            now.quiet = value;
        }
        return before;
    }

    // ---- reports, undo, saved states

    public int report() {
        written.write(now);
        return written.length;
    }

    public int reportByte(int i) {
        return written.byteAt(i);
    }

    public int undo() {
        return history.stepBack(now);
    }

    public int save(int slot) throws IllegalArgumentException {
        need(History.isSlot(slot));
        history.keep(slot, now);
        return now.time;
    }

    public int restore(int slot) throws IllegalArgumentException, NoSuchElementException {
        need(History.isSlot(slot));
        if (!history.bringBack(slot, now)) {
            throw new NoSuchElementException("nothing was saved there");
        }
        return now.time;
    }

    // ---- helpers

    private static void need(boolean holds) {
        if (!holds) {
            throw new IllegalArgumentException("out of range");
        }
    }

    private static boolean isOpening(int opening) {
        return opening >= 0 && opening <= 9;
    }

    private static boolean isSetting(int what, int value) {
        switch (what) {
            case 6: return value >= 1 && value <= 9;
            case 7: return value >= 2 && value <= 60;
            case 8: return value >= 0 && value <= 30;
            default: return false;
        }
    }

    private int change(Order order, int subject, int number) {
        int refusal = deeds.refusal(order, subject, number);
        if (refusal != 0) {
            deeds.refused++;
            return refusal;
        }
        history.record(now);
        return deeds.perform(order, subject, number);
    }

    private void endReading() {
        errorAt = text.error == 0 ? NONE : text.errorAt;
        text.clear();
    }

    /** The bits of a float from 0 to 1, by arithmetic: the language of this file has no floatToIntBits. */
    private static int bitsOf(float value) {
        if (!(value > 0.0f)) {
            return 0;
        }
        int exponent = 127;
        float mantissa = value;
        for (int i = 0; i < 126 && mantissa < 1.0f; i++) {
            mantissa = mantissa * 2.0f;
            exponent--;
        }
        return (exponent << 23) | (int) ((mantissa - 1.0f) * 8388608.0f);
    }

    /** What the setup tells; only a setup changes it. */
    private static final class House {
        static final int MOST_GUESTS = 16;
        static final int MOST_LOCKERS = 12;
        static final int MOST_PEGS = 16;
        static final int MOST_TOWELS = 16;
        static final int MOST_VALVES = 4;
        static final int MOST_STEPS = 6;
        static final int MOST_LETTERS = 6;

        final int[] age = new int[MOST_GUESTS];
        final int[] letters = new int[MOST_GUESTS * MOST_LETTERS];
        final int[] nameLength = new int[MOST_GUESTS];
        int guests;
        int lockers;
        int pegs;
        int towels;
        int valves;
        int steps;
        int room;
        int gong;
        int quiet;

        void copyFrom(House other) {
            System.arraycopy(other.age, 0, age, 0, MOST_GUESTS);
            System.arraycopy(other.letters, 0, letters, 0, MOST_GUESTS * MOST_LETTERS);
            System.arraycopy(other.nameLength, 0, nameLength, 0, MOST_GUESTS);
            guests = other.guests;
            lockers = other.lockers;
            pegs = other.pegs;
            towels = other.towels;
            valves = other.valves;
            steps = other.steps;
            room = other.room;
            gong = other.gong;
            quiet = other.quiet;
        }

        /** Reads a setup; whether it had an error, the text tells. */
        void read(Text text) {
            guests = 0;
            text.rewind();
            text.needWord("bath");
            lockers = text.needNumber(1, MOST_LOCKERS);
            pegs = text.needNumber(1, MOST_PEGS);
            towels = text.needNumber(0, pegs);
            valves = text.needNumber(1, MOST_VALVES);
            steps = text.needNumber(1, MOST_STEPS);
            room = text.needNumber(1, 9);
            gong = text.needNumber(2, 60);
            quiet = text.needNumber(0, 30);
            for (int i = 0; i <= MOST_GUESTS && text.error == 0 && text.kind == ';'; i++) {
                text.needSign(';');
                readGuest(text);
            }
            text.needEnd();
        }

        private void readGuest(Text text) {
            if (guests >= MOST_GUESTS && text.isWord("guest")) {
                text.fail(Text.TOO_MANY);
            }
            text.needWord("guest");
            text.checkName();
            if (text.error == 0 && guestNamed(text, text.start, text.end) != NONE) {
                text.fail(Text.NAME_TAKEN);
            }
            if (text.error != 0 || guests >= MOST_GUESTS) {
                return;
            }
            keepName(text);
            text.advance();
            age[guests] = text.needNumber(0, 99);
            guests++;
        }

        private void keepName(Text text) {
            int count = Math.min(text.end - text.start, MOST_LETTERS);
            nameLength[guests] = count;
            for (int i = 0; i < count; i++) {
                letters[guests * MOST_LETTERS + i] = text.byteAt(text.start + i);
            }
        }

        /** The guest whose name is the text from start to before end; NONE. */
        int guestNamed(Text text, int start, int end) {
            for (int guest = 0; guest < guests; guest++) {
                if (nameLength[guest] == end - start && isNameAt(guest, text, start)) {
                    return guest;
                }
            }
            return NONE;
        }

        private boolean isNameAt(int guest, Text text, int start) {
            for (int i = 0; i < nameLength[guest]; i++) {
                if (letters[guest * MOST_LETTERS + i] != text.byteAt(start + i)) {
                    return false;
                }
            }
            return true;
        }

        int letterOf(int guest, int i) {
            if (!isGuest(guest) || i < 0 || i >= nameLength[guest]) {
                return NONE;
            }
            return letters[guest * MOST_LETTERS + i];
        }

        boolean isGuest(int guest) {
            return guest >= 0 && guest < guests;
        }

        boolean isLocker(int locker) {
            return locker >= 0 && locker < lockers;
        }

        boolean isPeg(int peg) {
            return peg >= 0 && peg < pegs;
        }

        boolean isTowel(int towel) {
            return towel >= 0 && towel < towels;
        }

        boolean isValve(int valve) {
            return valve >= 0 && valve < valves;
        }

        boolean isStep(int step) {
            return step >= 1 && step <= steps;
        }

        int bears(int guest) {
            return 60 + age[guest] / 4;
        }

        static int ageFor(int step) {
            return 5 * (step - 1);
        }

        int highestByAge(int guest) {
            return Math.min(age[guest] / 5 + 1, steps);
        }
    }

    /** Everything that undoing restores, with the passing of minutes. */
    private static final class State {
        static final int OUT = NONE;
        static final int HALL = 0;
        static final int FULLY_WET = 9;
        static final int DRY_ENOUGH = 2;
        static final int WARMER = 6;
        static final int TOO_MUCH = 10;

        static final int ENTERED = 0;
        static final int LEFT = 1;
        static final int SENT = 2;
        static final int WARNED = 3;
        static final int CAME_DOWN = 4;
        static final int WASHED = 5;
        static final int WET_GROWN = 6;
        static final int GONGS = 7;
        static final int MINUTES = 8;
        static final int ACCOUNTS = 9;

        private final House house;
        final int[] openings = new int[House.MOST_VALVES];
        final int[] place = new int[House.MOST_GUESTS];
        final int[] lockerOf = new int[House.MOST_GUESTS];
        final int[] towelOf = new int[House.MOST_GUESTS];
        final int[] strain = new int[House.MOST_GUESTS];
        final int[] warnings = new int[House.MOST_GUESTS];
        final int[] sentDay = new int[House.MOST_GUESTS];
        final int[] keyHolder = new int[House.MOST_LOCKERS];
        final int[] wet = new int[House.MOST_TOWELS];
        final int[] pegOf = new int[House.MOST_TOWELS];
        final int[] holderOf = new int[House.MOST_TOWELS];
        final int[] towelOn = new int[House.MOST_PEGS];
        final int[] accounts = new int[ACCOUNTS];
        int time;
        int heat;
        int since;
        int room;
        int gong;
        int quiet;

        State(House house) {
            this.house = house;
        }

        /** All as at first, by the setup. */
        void begin() {
            time = 0;
            heat = 30;
            since = NONE;
            room = house.room;
            gong = house.gong;
            quiet = house.quiet;
            Arrays.fill(openings, 0);
            Arrays.fill(place, OUT);
            Arrays.fill(lockerOf, NONE);
            Arrays.fill(towelOf, NONE);
            Arrays.fill(strain, 0);
            Arrays.fill(warnings, 0);
            Arrays.fill(sentDay, NONE);
            Arrays.fill(keyHolder, NONE);
            Arrays.fill(wet, 0);
            Arrays.fill(pegOf, NONE);
            Arrays.fill(holderOf, NONE);
            Arrays.fill(towelOn, NONE);
            Arrays.fill(accounts, 0);
            for (int towel = 0; towel < house.towels; towel++) {
                putOnPeg(towel, towel);
            }
        }

        void copyFrom(State other) {
            time = other.time;
            heat = other.heat;
            since = other.since;
            room = other.room;
            gong = other.gong;
            quiet = other.quiet;
            copyRow(other.openings, openings);
            copyRow(other.place, place);
            copyRow(other.lockerOf, lockerOf);
            copyRow(other.towelOf, towelOf);
            copyRow(other.strain, strain);
            copyRow(other.warnings, warnings);
            copyRow(other.sentDay, sentDay);
            copyRow(other.keyHolder, keyHolder);
            copyRow(other.wet, wet);
            copyRow(other.pegOf, pegOf);
            copyRow(other.holderOf, holderOf);
            copyRow(other.towelOn, towelOn);
            copyRow(other.accounts, accounts);
        }

        private static void copyRow(int[] from, int[] to) {
            System.arraycopy(from, 0, to, 0, Math.min(from.length, to.length));
        }

        // ---- guests

        int guestsInside() {
            int count = 0;
            for (int guest = 0; guest < house.guests; guest++) {
                if (place[guest] != OUT) {
                    count++;
                }
            }
            return count;
        }

        /** The guests on a step, or in the hall. */
        int guestsAt(int where) {
            int count = 0;
            for (int guest = 0; guest < house.guests; guest++) {
                if (place[guest] == where) {
                    count++;
                }
            }
            return count;
        }

        /** The guest with the lowest number on a step, but for one who does not count there; NONE. */
        int lowestBeside(int asking, int step) {
            for (int guest = 0; guest < house.guests; guest++) {
                if (guest != asking && place[guest] == step) {
                    return guest;
                }
            }
            return NONE;
        }

        int eldestAt(int step) {
            int eldest = NONE;
            for (int guest = 0; guest < house.guests; guest++) {
                if (place[guest] == step && (!house.isGuest(eldest) || house.age[guest] > house.age[eldest])) {
                    eldest = guest;
                }
            }
            return eldest;
        }

        int strainedAt(int step) {
            int count = 0;
            for (int guest = 0; guest < house.guests; guest++) {
                if (place[guest] == step && temperature(step) > house.bears(guest)) {
                    count++;
                }
            }
            return count;
        }

        int temperature(int step) {
            return heat + WARMER * step;
        }

        int lockersInUse() {
            int count = 0;
            for (int locker = 0; locker < house.lockers; locker++) {
                if (keyHolder[locker] != NONE) {
                    count++;
                }
            }
            return count;
        }

        int freeLocker() {
            for (int locker = 0; locker < house.lockers; locker++) {
                if (keyHolder[locker] == NONE) {
                    return locker;
                }
            }
            return NONE;
        }

        // ---- towels

        boolean isInBasket(int towel) {
            return pegOf[towel] == NONE && holderOf[towel] == NONE;
        }

        int towelsInBasket() {
            int count = 0;
            for (int towel = 0; towel < house.towels; towel++) {
                if (isInBasket(towel)) {
                    count++;
                }
            }
            return count;
        }

        int towelsOnPegs() {
            int count = 0;
            for (int peg = 0; peg < house.pegs; peg++) {
                if (towelOn[peg] != NONE) {
                    count++;
                }
            }
            return count;
        }

        int towelsWithGuests() {
            int count = 0;
            for (int guest = 0; guest < house.guests; guest++) {
                if (towelOf[guest] != NONE) {
                    count++;
                }
            }
            return count;
        }

        /** The pegs whose towel tells another one. */
        int pegsUntold() {
            int count = 0;
            for (int peg = 0; peg < house.pegs; peg++) {
                int towel = towelOn[peg];
                if (house.isTowel(towel) && pegOf[towel] != peg) {
                    count++;
                }
            }
            return count;
        }

        int allWet() {
            int sum = 0;
            for (int towel = 0; towel < house.towels; towel++) {
                sum += wet[towel];
            }
            return sum;
        }

        int driestOnPegs() {
            int driest = NONE;
            int least = DRY_ENOUGH + 1;
            for (int peg = 0; peg < house.pegs; peg++) {
                int towel = towelOn[peg];
                if (towel >= 0 && towel < wet.length && wet[towel] < least) {
                    driest = towel;
                    least = wet[towel];
                }
            }
            return driest;
        }

        int freePeg() {
            for (int peg = 0; peg < house.pegs; peg++) {
                if (towelOn[peg] == NONE) {
                    return peg;
                }
            }
            return NONE;
        }

        void putOnPeg(int towel, int peg) {
            towelOn[peg] = towel;
            pegOf[towel] = peg;
            holderOf[towel] = NONE;
        }

        void giveToGuest(int towel, int guest) {
            int peg = pegOf[towel];
            if (house.isPeg(peg)) {
                towelOn[peg] = NONE;
            }
            pegOf[towel] = NONE;
            holderOf[towel] = guest;
            towelOf[guest] = towel;
        }

        // ---- minutes

        int day() {
            return time / 600;
        }

        int minutesLeftToday() {
            return 600 - time % 600;
        }

        boolean isSilence() {
            return since != NONE && time < since + quiet;
        }

        int minutesToGong() {
            return gong > 0 ? gong - time % gong : NONE;
        }

        int steam() {
            int sum = 0;
            for (int valve = 0; valve < house.valves; valve++) {
                sum += openings[valve];
            }
            return sum;
        }

        static int heatBehind(int heat, int steam) {
            int next = heat + steam - (3 + heat / 20);
            return Math.max(0, Math.min(100, next));
        }

        static int wetOnPegBehind(int wet, int heat) {
            return heat < 60 ? Math.max(0, wet - 1) : wet;
        }

        /** The strain on a step behind one minute, so much above what the guest bears; before it comes down. */
        static int strainBehind(int strain, int above) {
            return above > 0 ? strain + above / 5 + 1 : Math.max(0, strain - 1);
        }

        /** Lets minutes pass; answers how often a guest came down in them. */
        int pass(int minutes) {
            int before = accounts[CAME_DOWN];
            for (int i = 0; i < minutes; i++) {
                time++;
                accounts[MINUTES]++;
                soundGong();
                heat = heatBehind(heat, steam());
                changeTowels();
                for (int guest = 0; guest < house.guests; guest++) {
                    strainGuest(guest);
                    if (strain[guest] >= TOO_MUCH && place[guest] > HALL) {
                        comeDown(guest);
                    }
                }
            }
            return accounts[CAME_DOWN] - before;
        }

        private void soundGong() {
            if (gong > 0 && time % gong == 0) {
                since = time;
                accounts[GONGS]++;
            }
        }

        private void changeTowels() {
            for (int towel = 0; towel < house.towels; towel++) {
                int holder = holderOf[towel];
                if (house.isGuest(holder)) {
                    if (place[holder] > HALL && wet[towel] < FULLY_WET) {
                        wet[towel]++;
                        accounts[WET_GROWN]++;
                    }
                } else if (pegOf[towel] != NONE) {
                    wet[towel] = wetOnPegBehind(wet[towel], heat);
                }
            }
        }

        private void strainGuest(int guest) {
            int where = place[guest];
            if (where == HALL) {
                strain[guest] = Math.max(0, strain[guest] - 1);
            } else if (where > HALL) {
                strain[guest] = strainBehind(strain[guest], temperature(where) - house.bears(guest));
            }
        }

        private void comeDown(int guest) {
            int lower = place[guest] - 1;
            while (lower > HALL && guestsAt(lower) >= room) {
                lower--;
            }
            place[guest] = lower;
            strain[guest] = 5;
            accounts[CAME_DOWN]++;
        }
    }

    /** Why a guest cannot do a deed now. */
    private static final class Why {
        static final int ENTER = 0;
        static final int LEAVE = 1;
        static final int SIT = 10;
        static final int HANG = 20;
        static final int TAKE = 40;

        private final House house;
        private final State now;

        Why(House house, State now) {
            this.house = house;
            this.now = now;
        }

        boolean isDeed(int deed) {
            return deed == ENTER || deed == LEAVE || house.isStep(deed - SIT)
                    || house.isPeg(deed - HANG) || house.isPeg(deed - TAKE);
        }

        /** The first reason; 0 if the guest can. */
        int reason(int guest, int deed) {
            if (deed == ENTER) {
                return reasonToStayOut(guest);
            }
            if (now.place[guest] == State.OUT) {
                return 5;
            }
            if (house.isStep(deed - SIT)) {
                return reasonNotToSit(guest, deed - SIT);
            }
            if (now.place[guest] != State.HALL) {
                return 9;
            }
            if (house.isPeg(deed - HANG)) {
                return reasonNotToHang(guest, deed - HANG);
            }
            if (house.isPeg(deed - TAKE)) {
                return reasonNotToTake(guest, deed - TAKE);
            }
            return 0;
        }

        private int reasonToStayOut(int guest) {
            if (now.place[guest] != State.OUT) {
                return 1;
            }
            if (now.sentDay[guest] == now.day()) {
                return 2;
            }
            if (now.freeLocker() == NONE) {
                return 3;
            }
            return now.driestOnPegs() == NONE ? 4 : 0;
        }

        private int reasonNotToSit(int guest, int step) {
            if (now.towelOf[guest] == NONE) {
                return 6;
            }
            if (house.age[guest] < House.ageFor(step)) {
                return 7;
            }
            int others = now.guestsAt(step);
            if (now.place[guest] == step) {
                others--;
            }
            return others >= now.room ? 8 : 0;
        }

        private int reasonNotToHang(int guest, int peg) {
            if (now.towelOf[guest] == NONE) {
                return 6;
            }
            return now.towelOn[peg] != NONE ? 10 : 0;
        }

        private int reasonNotToTake(int guest, int peg) {
            if (now.towelOf[guest] != NONE) {
                return 11;
            }
            return now.towelOn[peg] == NONE ? 12 : 0;
        }

        /** What is behind the first reason; 0 if nothing more is told of it. */
        int cause(int guest, int deed) {
            switch (reason(guest, deed)) {
                case 2: return 100 + now.minutesLeftToday();
                case 3: return 200 + house.lockers;
                case 7: return 300 + House.ageFor(deed - SIT) - house.age[guest];
                case 8: return 400 + now.lowestBeside(guest, deed - SIT);
                case 9: return 500 + now.place[guest];
                case 10: return 600 + (house.isPeg(deed - HANG) ? now.towelOn[deed - HANG] : NONE);
                default: return 0;
            }
        }
    }

    /** The orders of a script; all changes but set are done by them, too. */
    private enum Order {
        ENTER("enter", true, 0, NONE),
        SIT("sit", true, 1, 6),
        HALL("hall", true, 0, NONE),
        HANG("hang", true, 0, 15),
        TAKE("take", true, 0, 15),
        LEAVE("leave", true, 0, NONE),
        SPEAK("speak", true, 0, NONE),
        WASH("wash", false, 0, NONE),
        VALVE("valve", false, 0, 9),
        WAIT("wait", false, 1, 60),
        AGAIN("again", false, 0, 20);

        final String word;
        final boolean named;
        final int least;
        final int most;

        /** The order's last number is least to most; there is none if most is NONE. */
        Order(String word, boolean named, int least, int most) {
            this.word = word;
            this.named = named;
            this.least = least;
            this.most = most;
        }
    }

    /** The orders as deeds: whether they can be done, and how. The subject is a guest, or a valve. */
    private static final class Deeds {
        private static final int ALL_WARNINGS = 3;

        private final House house;
        private final State now;
        private final Why reasons;
        /** Account 9, which no undoing restores. */
        int refused;

        Deeds(House house, State now, Why reasons) {
            this.house = house;
            this.now = now;
            this.reasons = reasons;
        }

        /** Whether there is all that the order tells. */
        boolean isThere(Order order, int subject, int number) {
            if (order == Order.VALVE) {
                return house.isValve(subject);
            }
            if (order.named && !house.isGuest(subject)) {
                return false;
            }
            if (order == Order.SIT) {
                return house.isStep(number);
            }
            return (order != Order.HANG && order != Order.TAKE) || house.isPeg(number);
        }

        /** The error code of an order that cannot be done now; 0. */
        int refusal(Order order, int subject, int number) {
            switch (order) {
                case HALL: return now.place[subject] > State.HALL ? 0 : NOT_ON_STEP;
                case SPEAK: return now.place[subject] != State.OUT ? 0 : IS_OUT;
                case WAIT: return now.time + number <= LAST_TIME ? 0 : TOO_LATE;
                case WASH: return 0;
                case VALVE: return 0;
                default: return reasons.reason(subject, deedOf(order, number)) == 0 ? 0 : REFUSED;
            }
        }

        private static int deedOf(Order order, int number) {
            switch (order) {
                case SIT: return Why.SIT + number;
                case HANG: return Why.HANG + number;
                case TAKE: return Why.TAKE + number;
                case LEAVE: return Why.LEAVE;
                default: return Why.ENTER;
            }
        }

        /** Does an order that is not refused. */
        int perform(Order order, int subject, int number) {
            switch (order) {
                case ENTER: return letIn(subject);
                case SIT: return seat(subject, number);
                case HALL: return seatInHall(subject);
                case HANG: return hangUp(subject, number);
                case TAKE: return takeDown(subject, number);
                case LEAVE: return letGo(subject);
                case SPEAK: return hear(subject);
                case WASH: return washBasket();
                case VALVE: return turn(subject, number);
                case WAIT: return now.pass(number);
                default: return NONE;
            }
        }

        private int letIn(int guest) {
            int locker = now.freeLocker();
            int towel = now.driestOnPegs();
            if (!house.isLocker(locker) || !house.isTowel(towel)) {
                return NONE;
            }
            now.keyHolder[locker] = guest;
            now.lockerOf[guest] = locker;
            now.giveToGuest(towel, guest);
            now.place[guest] = State.HALL;
            now.strain[guest] = 0;
            now.accounts[State.ENTERED]++;
            return locker;
        }

        private int seat(int guest, int step) {
            now.place[guest] = step;
            return now.temperature(step);
        }

        private int seatInHall(int guest) {
            int before = now.place[guest];
            now.place[guest] = State.HALL;
            return before;
        }

        private int hangUp(int guest, int peg) {
            int towel = now.towelOf[guest];
            if (!house.isTowel(towel)) {
                return NONE;
            }
            now.putOnPeg(towel, peg);
            now.towelOf[guest] = NONE;
            return towel;
        }

        private int takeDown(int guest, int peg) {
            int towel = now.towelOn[peg];
            if (!house.isTowel(towel)) {
                return NONE;
            }
            now.giveToGuest(towel, guest);
            return towel;
        }

        private int letGo(int guest) {
            int locker = now.lockerOf[guest];
            int towel = now.towelOf[guest];
            if (house.isLocker(locker)) {
                now.keyHolder[locker] = NONE;
            }
            if (house.isTowel(towel)) {
                now.holderOf[towel] = NONE;
            }
            now.lockerOf[guest] = NONE;
            now.towelOf[guest] = NONE;
            now.place[guest] = State.OUT;
            now.accounts[State.LEFT]++;
            return locker;
        }

        private int hear(int guest) {
            if (!now.isSilence()) {
                return now.warnings[guest];
            }
            now.warnings[guest]++;
            now.accounts[State.WARNED]++;
            if (now.warnings[guest] < ALL_WARNINGS) {
                return now.warnings[guest];
            }
            letGo(guest);
            now.warnings[guest] = 0;
            now.sentDay[guest] = now.day();
            now.accounts[State.SENT]++;
            return ALL_WARNINGS;
        }

        private int washBasket() {
            int count = 0;
            for (int towel = 0; towel < house.towels; towel++) {
                int peg = now.isInBasket(towel) ? now.freePeg() : NONE;
                if (house.isPeg(peg)) {
                    now.wet[towel] = 0;
                    now.putOnPeg(towel, peg);
                    count++;
                }
            }
            now.accounts[State.WASHED] += count;
            return count;
        }

        private int turn(int valve, int opening) {
            int before = now.openings[valve];
            now.openings[valve] = opening;
            return before;
        }
    }

    /** The buffer, and its tokens one behind the other; only the first error is kept. */
    private static final class Text {
        static final int MOST_BYTES = 600;

        static final int NOT_ALLOWED = 1;
        static final int OUT_OF_RANGE = 2;
        static final int NAME_TAKEN = 3;
        static final int TOO_MANY = 4;

        /** Kinds of tokens; each of ; ( ) is a kind by its own byte. */
        static final int END = 0;
        static final int WORD = 1;
        static final int NUMBER = 2;
        static final int INVALID = 3;

        /** Stands for each number above it: it is out of every range. */
        private static final int LARGE = 10000;

        private final int[] bytes = new int[MOST_BYTES];
        int length;
        int kind;
        int start;
        int end;
        private int value;
        int error;
        int errorAt;

        void clear() {
            length = 0;
        }

        static int bytesIn(int four) {
            int count = 0;
            for (int shift = 24; shift >= 0; shift -= 8) {
                if (((four >>> shift) & 255) != 0) {
                    count++;
                }
            }
            return count;
        }

        void append(int four) {
            for (int shift = 24; shift >= 0; shift -= 8) {
                put((four >>> shift) & 255);
            }
        }

        void appendText(String signs) {
            for (int i = 0; i < signs.length(); i++) {
                put(signs.charAt(i));
            }
        }

        private void put(int sign) {
            if (sign != 0 && length < MOST_BYTES) {
                bytes[length] = sign;
                length++;
            }
        }

        int byteAt(int i) {
            return i >= 0 && i < length ? bytes[i] : NONE;
        }

        /** Goes to the first token. */
        void rewind() {
            error = 0;
            errorAt = NONE;
            end = 0;
            advance();
        }

        void advance() {
            start = end;
            while (start < length && isBlank(byteAt(start))) {
                start++;
            }
            int first = byteAt(start);
            end = start;
            if (first == NONE) {
                kind = END;
            } else if (isLetter(first)) {
                kind = WORD;
                while (end < length && isLetter(byteAt(end))) {
                    end++;
                }
            } else if (isDigit(first)) {
                kind = NUMBER;
                value = 0;
                while (end < length && isDigit(byteAt(end))) {
                    value = Math.min(LARGE, value * 10 + byteAt(end) - '0');
                    end++;
                }
            } else {
                kind = isSign(first) ? first : INVALID;
                end++;
            }
        }

        private static boolean isBlank(int sign) {
            return sign == ' ' || sign == '\n';
        }

        private static boolean isLetter(int sign) {
            return sign >= 'a' && sign <= 'z';
        }

        private static boolean isDigit(int sign) {
            return sign >= '0' && sign <= '9';
        }

        private static boolean isSign(int sign) {
            return sign == ';' || sign == '(' || sign == ')';
        }

        void fail(int code) {
            if (error == 0) {
                error = code;
                errorAt = start;
            }
        }

        boolean isWord(String word) {
            if (kind != WORD || end - start != word.length()) {
                return false;
            }
            for (int i = 0; i < word.length(); i++) {
                if (byteAt(start + i) != word.charAt(i)) {
                    return false;
                }
            }
            return true;
        }

        void needWord(String word) {
            goOnIf(isWord(word));
        }

        void needSign(int sign) {
            goOnIf(kind == sign);
        }

        void needEnd() {
            goOnIf(kind == END);
        }

        private void goOnIf(boolean allowed) {
            if (!allowed) {
                fail(NOT_ALLOWED);
            } else if (error == 0) {
                advance();
            }
        }

        int needNumber(int least, int most) {
            int told = value;
            if (kind != NUMBER) {
                fail(NOT_ALLOWED);
            } else if (told < least || told > most) {
                fail(OUT_OF_RANGE);
            }
            if (error != 0) {
                return least;
            }
            advance();
            return told;
        }

        /** Whether a name stands here; does not go on. */
        void checkName() {
            if (kind != WORD) {
                fail(NOT_ALLOWED);
            } else if (end - start > House.MOST_LETTERS) {
                fail(OUT_OF_RANGE);
            }
        }
    }

    /** A script as rows of orders, those in brackets behind their "again". */
    private static final class Script {
        private static final Order[] ORDERS = Order.values();
        private static final int MOST_TOLD = 30;
        private static final int MOST_DONE = 40;
        private static final int MOST_BRACKETS = 2;

        private final House house;
        private final Deeds deeds;
        private final Order[] order = new Order[MOST_TOLD];
        private final int[] subject = new int[MOST_TOLD];
        private final int[] number = new int[MOST_TOLD];
        /** Of an "again": the first order behind its brackets. */
        private final int[] behind = new int[MOST_TOLD];
        int count;
        int done;
        private boolean ended;

        Script(House house, Deeds deeds) {
            this.house = house;
            this.deeds = deeds;
        }

        void clear() {
            count = 0;
            done = 0;
            ended = false;
        }

        /** Reads orders up to a token that begins none; whether there was an error, the text tells. */
        private void readOrders(Text text, int brackets) {
            for (int i = 0; i <= MOST_TOLD && text.error == 0 && text.kind == Text.WORD; i++) {
                readOrder(text, brackets);
                text.needSign(';');
            }
        }

        private void readOrder(Text text, int brackets) {
            Order told = orderHere(text);
            if (told == null) {
                text.fail(Text.NOT_ALLOWED);
                return;
            }
            if (count >= MOST_TOLD) {
                text.fail(Text.TOO_MANY);
                return;
            }
            int at = count;
            count++;
            text.advance();
            order[at] = told;
            subject[at] = readSubject(text, told);
            number[at] = told.most == NONE ? 0 : text.needNumber(told.least, told.most);
            if (told == Order.AGAIN) {
                readBrackets(text, brackets);
            }
            behind[at] = count;
        }

        private static Order orderHere(Text text) {
            for (int i = 0; i < ORDERS.length; i++) {
                Order told = ORDERS[i];
                if (told != null && text.isWord(told.word)) {
                    return told;
                }
            }
            return null;
        }

        /** The guest or the valve that the order tells; 0 if it tells none such. */
        private int readSubject(Text text, Order told) {
            if (told == Order.VALVE) {
                return text.needNumber(0, 3);
            }
            if (!told.named) {
                return 0;
            }
            text.checkName();
            if (text.error != 0) {
                return NONE;
            }
            int guest = house.guestNamed(text, text.start, text.end);
            text.advance();
            return guest;
        }

        private void readBrackets(Text text, int brackets) {
            if (text.kind == '(' && brackets >= MOST_BRACKETS) {
                text.fail(Text.TOO_MANY);
            }
            text.needSign('(');
            if (text.error == 0 && brackets < MOST_BRACKETS) {
                readOrders(text, brackets + 1);
            }
            text.needSign(')');
        }

        /** Does the orders from one to before another, until the script ends as a whole. */
        private void runOrders(int from, int to, int brackets) {
            int next = from;
            for (int i = from; i < to && i < count; i++) {
                if (i < next || ended) {
                    continue;
                }
                next = behind[i];
                if (order[i] == Order.AGAIN) {
                    runAgain(i, brackets);
                } else {
                    runOrder(i);
                }
            }
        }

        private void runAgain(int at, int brackets) {
            for (int i = 0; i < number[at] && !ended && brackets < MOST_BRACKETS; i++) {
                runOrders(at + 1, behind[at], brackets + 1);
            }
        }

        private void runOrder(int at) {
            Order told = order[at];
            if (told == null || !deeds.isThere(told, subject[at], number[at])) {
                ended = true;
                return;
            }
            if (deeds.refusal(told, subject[at], number[at]) != 0) {
                deeds.refused++;
                ended = true;
                return;
            }
            deeds.perform(told, subject[at], number[at]);
            done++;
            ended = done >= MOST_DONE;
        }
    }

    /** What can be undone, as a ring of states, and what was saved. */
    private static final class History {
        private static final int MOST_CHANGES = 8;
        private static final int SLOTS = 2;

        private final State[] past = new State[MOST_CHANGES];
        private final State[] kept = new State[SLOTS];
        private final boolean[] filled = new boolean[SLOTS];
        private int newest;
        int count;

        History(House house) {
            for (int i = 0; i < MOST_CHANGES; i++) {
                past[i] = new State(house);
            }
            for (int i = 0; i < SLOTS; i++) {
                kept[i] = new State(house);
            }
        }

        void forgetAll() {
            count = 0;
            for (int i = 0; i < SLOTS; i++) {
                filled[i] = false;
            }
        }

        void record(State now) {
            newest = newest + 1 < MOST_CHANGES ? newest + 1 : 0;
            State free = past[newest];
            if (free != null) {
                free.copyFrom(now);
                count = Math.min(MOST_CHANGES, count + 1);
            }
        }

        /** Answers how many changes can still be undone; NONE if there was none. */
        int stepBack(State now) {
            State before = past[newest];
            if (count == 0 || before == null) {
                return NONE;
            }
            now.copyFrom(before);
            newest = newest > 0 ? newest - 1 : MOST_CHANGES - 1;
            count--;
            return count;
        }

        static boolean isSlot(int slot) {
            return slot >= 0 && slot < SLOTS;
        }

        void keep(int slot, State now) {
            State free = kept[slot];
            if (free != null) {
                free.copyFrom(now);
                filled[slot] = true;
            }
        }

        /** Answers whether something was kept there. */
        boolean bringBack(int slot, State now) {
            State before = kept[slot];
            if (!filled[slot] || before == null) {
                return false;
            }
            now.copyFrom(before);
            count = 0;
            return true;
        }
    }

    /** The latest report, as bytes. */
    private static final class Report {
        /** Above what 6 steps, 16 names and 16 pegs can need. */
        private static final int MOST_BYTES = 256;

        private final House house;
        private final int[] bytes = new int[MOST_BYTES];
        int length;

        Report(House house) {
            this.house = house;
        }

        void write(State now) {
            length = 0;
            for (int step = house.steps; step >= 1; step--) {
                putNumber(step);
                putGuestsAt(now, step);
                put(' ');
            }
            put('h');
            putGuestsAt(now, State.HALL);
            put(' ');
            put('p');
            putPegs(now);
        }

        private void putGuestsAt(State now, int where) {
            put(':');
            boolean first = true;
            for (int guest = 0; guest < house.guests; guest++) {
                if (now.place[guest] == where) {
                    if (!first) {
                        put(',');
                    }
                    first = false;
                    putName(guest);
                }
            }
        }

        private void putName(int guest) {
            for (int i = 0; i < house.nameLength[guest]; i++) {
                put(house.letterOf(guest, i));
            }
        }

        private void putPegs(State now) {
            put(':');
            for (int peg = 0; peg < house.pegs; peg++) {
                if (peg > 0) {
                    put(',');
                }
                if (now.towelOn[peg] == NONE) {
                    put('-');
                } else {
                    putNumber(now.towelOn[peg]);
                }
            }
        }

        /** A number from 0 to 99. */
        private void putNumber(int number) {
            if (number >= 10) {
                put('0' + number / 10);
            }
            put('0' + number % 10);
        }

        private void put(int sign) {
            if (length < MOST_BYTES) {
                bytes[length] = sign;
                length++;
            }
        }

        int byteAt(int i) {
            return i >= 0 && i < length ? bytes[i] : NONE;
        }
    }
}
