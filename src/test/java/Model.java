import java.util.ArrayDeque;
import java.util.ArrayList;
import java.util.Deque;
import java.util.HashSet;
import java.util.List;
import java.util.NoSuchElementException;
import java.util.Optional;
import java.util.Set;
import java.util.TreeMap;

/**
 * The document a second time, written apart from HotSteps and in another way (objects and
 * collections of the Java library, deep copies, what will be by trying it on a copy).
 */
final class Model {
    static final int NONE = -1;

    static final class Guest {
        String name;
        int age;
        Integer step;      // null: out, 0: hall
        Integer locker;
        Towel towel;
        int strain;
        int warnings;
        int sent = NONE;
    }

    static final class Towel {
        int number;
        int wet;
    }

    static final class World {
        int lockers, pegs, valves, steps, room, gong, quiet;
        int time, heat = 30;
        Integer since;
        int[] openings;
        List<Guest> guests = new ArrayList<>();
        List<Towel> towels = new ArrayList<>();
        TreeMap<Integer, Towel> hanging = new TreeMap<>();
        Set<Towel> basket = new HashSet<>();
        int[] accounts = new int[9];

        World copy() {
            World w = new World();
            w.lockers = lockers;
            w.pegs = pegs;
            w.valves = valves;
            w.steps = steps;
            w.room = room;
            w.gong = gong;
            w.quiet = quiet;
            w.time = time;
            w.heat = heat;
            w.since = since;
            w.openings = openings.clone();
            w.accounts = accounts.clone();
            for (Towel t : towels) {
                Towel u = new Towel();
                u.number = t.number;
                u.wet = t.wet;
                w.towels.add(u);
                if (basket.contains(t)) {
                    w.basket.add(u);
                }
            }
            hanging.forEach((peg, t) -> w.hanging.put(peg, w.towels.get(t.number)));
            for (Guest g : guests) {
                Guest h = new Guest();
                h.name = g.name;
                h.age = g.age;
                h.step = g.step;
                h.locker = g.locker;
                h.towel = g.towel == null ? null : w.towels.get(g.towel.number);
                h.strain = g.strain;
                h.warnings = g.warnings;
                h.sent = g.sent;
                w.guests.add(h);
            }
            return w;
        }

        boolean silent() {
            return since != null && time < since + quiet;
        }

        int temperature(int step) {
            return heat + 6 * step;
        }

        List<Guest> there(int step) {
            return guests.stream().filter(g -> g.step != null && g.step == step).toList();
        }

        List<Guest> inside() {
            return guests.stream().filter(g -> g.step != null).toList();
        }

        Optional<Integer> freeLocker() {
            for (int i = 0; i < lockers; i++) {
                int k = i;
                if (guests.stream().noneMatch(g -> g.locker != null && g.locker == k)) {
                    return Optional.of(i);
                }
            }
            return Optional.empty();
        }

        Integer driestPeg() {
            Integer best = null;
            for (int peg : hanging.keySet()) {
                if (hanging.get(peg).wet <= 2 && (best == null || hanging.get(peg).wet < hanging.get(best).wet)) {
                    best = peg;
                }
            }
            return best;
        }

        Guest holder(Towel t) {
            return guests.stream().filter(g -> g.towel == t).findFirst().orElse(null);
        }

        Integer pegOf(Towel t) {
            return hanging.keySet().stream().filter(p -> hanging.get(p) == t).findFirst().orElse(null);
        }

        void leaves(Guest g) {
            g.step = null;
            g.locker = null;
            if (g.towel != null) {
                basket.add(g.towel);
            }
            g.towel = null;
            accounts[1]++;
        }

        /** One minute; the guests who came down in it. */
        Set<Guest> minute() {
            time += 1;
            accounts[8] += 1;
            if (time % gong == 0) {
                since = time;
                accounts[7] += 1;
            }
            int change = -3 - Math.floorDiv(heat, 20);
            for (int o : openings) {
                change += o;
            }
            heat = Math.min(100, Math.max(0, heat + change));
            for (Guest g : guests) {
                if (g.towel != null && g.step != null && g.step > 0 && g.towel.wet < 9) {
                    g.towel.wet++;
                    accounts[6]++;
                }
            }
            if (heat < 60) {
                hanging.values().forEach(t -> t.wet = t.wet == 0 ? 0 : t.wet - 1);
            }
            Set<Guest> down = new HashSet<>();
            for (Guest g : guests) {
                if (g.step == null) {
                    continue;
                }
                int more = g.step == 0 ? 0 : temperature(g.step) - (60 + g.age / 4);
                g.strain = more > 0 ? g.strain + more / 5 + 1 : Math.max(g.strain - 1, 0);
                if (g.step > 0 && g.strain >= 10) {
                    int to = g.step - 1;
                    while (to > 0 && there(to).size() >= room) {
                        to--;
                    }
                    g.step = to;
                    g.strain = 5;
                    accounts[4]++;
                    down.add(g);
                }
            }
            return down;
        }
    }

    private World w;
    private StringBuilder buffer = new StringBuilder();
    private int errorAt = NONE;
    private int refused = 0;
    private String report = "";
    private final Deque<World> undo = new ArrayDeque<>();
    private final World[] slots = new World[2];

    Model() {
        buffer.append("bath 4 6 5 2 4 2 20 5; guest ada 34; guest ben 8; guest cai 61; guest dov 15; guest eli 22");
        load();
    }

    // ---- texts

    private static final class Wrong extends Exception {
        private static final long serialVersionUID = 1L;
        final int code;
        final int at;

        Wrong(int code, int at) {
            super("error " + code + " at " + at);
            this.code = code;
            this.at = at;
        }
    }

    private record Token(String signs, int at) {
        boolean isWord() {
            return signs.matches("[a-z]+");
        }

        boolean isNumber() {
            return signs.matches("[0-9]+");
        }
    }

    private record Told(String word, String name, int[] numbers, List<Told> inner) {
    }

    private final List<Token> tokens = new ArrayList<>();
    private int next;
    private int orders;

    private void cut() {
        tokens.clear();
        next = 0;
        java.util.regex.Matcher m = java.util.regex.Pattern.compile("[a-z]+|[0-9]+|[^ \n]", java.util.regex.Pattern.DOTALL).matcher(buffer);
        while (m.find()) {
            tokens.add(new Token(m.group(), m.start()));
        }
        tokens.add(new Token("", buffer.length()));
    }

    private Token peek() {
        return tokens.get(next);
    }

    private void sign(String s) throws Wrong {
        if (!peek().signs().equals(s)) {
            throw new Wrong(1, peek().at());
        }
        next++;
    }

    private int number(int least, int most) throws Wrong {
        Token t = peek();
        if (!t.isNumber()) {
            throw new Wrong(1, t.at());
        }
        java.math.BigInteger n = new java.math.BigInteger(t.signs());
        if (n.compareTo(java.math.BigInteger.valueOf(least)) < 0 || n.compareTo(java.math.BigInteger.valueOf(most)) > 0) {
            throw new Wrong(2, t.at());
        }
        next++;
        return n.intValue();
    }

    private String name() throws Wrong {
        Token t = peek();
        if (!t.isWord()) {
            throw new Wrong(1, t.at());
        }
        if (t.signs().length() > 6) {
            throw new Wrong(2, t.at());
        }
        next++;
        return t.signs();
    }

    private World setup() throws Wrong {
        cut();
        World v = new World();
        sign("bath");
        v.lockers = number(1, 12);
        v.pegs = number(1, 16);
        int towels = number(0, v.pegs);
        v.valves = number(1, 4);
        v.steps = number(1, 6);
        v.room = number(1, 9);
        v.gong = number(2, 60);
        v.quiet = number(0, 30);
        v.openings = new int[v.valves];
        for (int k = 0; k < towels; k++) {
            Towel t = new Towel();
            t.number = k;
            v.towels.add(t);
            v.hanging.put(k, t);
        }
        while (peek().signs().equals(";")) {
            next++;
            if (peek().signs().equals("guest") && v.guests.size() == 16) {
                throw new Wrong(4, peek().at());
            }
            sign("guest");
            Guest g = new Guest();
            int at = peek().at();
            g.name = name();
            if (v.guests.stream().anyMatch(o -> o.name.equals(g.name))) {
                throw new Wrong(3, at);
            }
            g.age = number(0, 99);
            v.guests.add(g);
        }
        sign("");
        return v;
    }

    private List<Told> script(int depth) throws Wrong {
        List<Told> all = new ArrayList<>();
        while (!peek().signs().equals(depth == 0 ? "" : ")")) {
            all.add(order(depth));
            sign(";");
        }
        return all;
    }

    private Told order(int depth) throws Wrong {
        Token t = peek();
        if (!List.of("enter", "sit", "hall", "hang", "take", "leave", "speak", "wash", "valve", "wait", "again").contains(t.signs())) {
            throw new Wrong(1, t.at());
        }
        if (++orders > 30) {
            throw new Wrong(4, t.at());
        }
        next++;
        switch (t.signs()) {
            case "wash":
                return new Told("wash", "", new int[0], null);
            case "valve":
                return new Told("valve", "", new int[] {number(0, 3), number(0, 9)}, null);
            case "wait":
                return new Told("wait", "", new int[] {number(1, 60)}, null);
            case "again":
                int times = number(0, 20);
                if (peek().signs().equals("(") && depth == 2) {
                    throw new Wrong(4, peek().at());
                }
                sign("(");
                List<Told> inner = script(depth + 1);
                sign(")");
                return new Told("again", "", new int[] {times}, inner);
            default:
                String name = name();
                if (t.signs().equals("sit")) {
                    return new Told("sit", name, new int[] {number(1, 6)}, null);
                }
                if (t.signs().equals("hang") || t.signs().equals("take")) {
                    return new Told(t.signs(), name, new int[] {number(0, 15)}, null);
                }
                return new Told(t.signs(), name, new int[0], null);
        }
    }

    int feed(int... five) {
        StringBuilder more = new StringBuilder();
        for (int four : five) {
            for (byte b : java.nio.ByteBuffer.allocate(4).putInt(four).array()) {
                if (b != 0) {
                    more.append((char) Byte.toUnsignedInt(b));
                }
            }
        }
        if (buffer.length() + more.length() > 600) {
            return NONE;
        }
        return buffer.append(more).length();
    }

    int load() {
        try {
            World v = setup();
            w = v;
            errorAt = NONE;
            refused = 0;
            undo.clear();
            slots[0] = null;
            slots[1] = null;
            return w.guests.size();
        } catch (Wrong e) {
            errorAt = e.at;
            return -20 - e.code;
        } finally {
            buffer = new StringBuilder();
        }
    }

    int play() {
        try {
            cut();
            orders = 0;
            List<Told> all = script(0);
            errorAt = NONE;
            remember();
            budget = 40;
            run(all);
            return 40 - budget;
        } catch (Wrong e) {
            errorAt = e.at;
            return -20 - e.code;
        } finally {
            buffer = new StringBuilder();
        }
    }

    private int budget;

    /** Whether to go on. */
    private boolean run(List<Told> all) {
        for (Told t : all) {
            if (t.word().equals("again")) {
                for (int i = 0; i < t.numbers()[0]; i++) {
                    if (!run(t.inner())) {
                        return false;
                    }
                }
                continue;
            }
            int subject = t.word().equals("valve") ? t.numbers()[0] : guestOf(t.name());
            int number = t.numbers().length == 0 ? 0 : t.numbers()[t.numbers().length - 1];
            try {
                if (doIt(t.word(), subject, number, false) < 0) {
                    return false;
                }
            } catch (IllegalArgumentException e) {
                return false;
            }
            if (--budget == 0) {
                return false;
            }
        }
        return true;
    }

    private int guestOf(String name) {
        for (int i = 0; i < w.guests.size(); i++) {
            if (w.guests.get(i).name.equals(name)) {
                return i;
            }
        }
        return NONE;
    }

    int errorPosition() {
        return errorAt;
    }

    // ---- as it is now

    private static <T> T in(List<T> list, int i) {
        if (i < 0 || i >= list.size()) {
            throw new IllegalArgumentException();
        }
        return list.get(i);
    }

    private static void range(int x, int least, int most) {
        if (x < least || x > most) {
            throw new IllegalArgumentException();
        }
    }

    private static int number(Integer i) {
        return i == null ? NONE : i;
    }

    int size(int what) {
        range(what, 0, 16);
        int steps = 0;
        for (int s = 1; s <= w.steps; s++) {
            steps += w.there(s).size();
        }
        return new int[] {w.guests.size(), w.lockers, w.pegs, w.towels.size(), w.valves, w.steps, w.room, w.gong,
            w.quiet, w.time, w.heat, w.inside().size(), steps, w.basket.size(),
            w.lockers - (int) w.guests.stream().filter(g -> g.locker != null).count(), w.silent() ? 1 : 0, undo.size()}[what];
    }

    int guest(int guest, int what) {
        Guest g = in(w.guests, guest);
        range(what, 0, 8);
        int highest = 1;
        for (int s = 1; s <= w.steps; s++) {
            if (g.age >= 5 * (s - 1)) {
                highest = s;
            }
        }
        return new int[] {g.age, number(g.step), number(g.locker), g.towel == null ? NONE : g.towel.number, g.strain,
            g.warnings, 60 + g.age / 4, highest, g.sent}[what];
    }

    int towel(int towel, int what) {
        Towel t = in(w.towels, towel);
        range(what, 0, 3);
        return new int[] {t.wet, number(w.pegOf(t)), w.guests.indexOf(w.holder(t)), w.basket.contains(t) ? 1 : 0}[what];
    }

    int peg(int peg) {
        range(peg, 0, w.pegs - 1);
        return w.hanging.containsKey(peg) ? w.hanging.get(peg).number : NONE;
    }

    int locker(int locker) {
        range(locker, 0, w.lockers - 1);
        for (int i = 0; i < w.guests.size(); i++) {
            if (number(w.guests.get(i).locker) == locker) {
                return i;
            }
        }
        return NONE;
    }

    int opening(int valve) {
        range(valve, 0, w.valves - 1);
        return w.openings[valve];
    }

    int step(int step, int what) {
        range(step, 1, w.steps);
        range(what, 0, 4);
        List<Guest> there = w.there(step);
        Guest eldest = there.stream().reduce((a, b) -> b.age > a.age ? b : a).orElse(null);
        return new int[] {there.size(), w.temperature(step), 5 * (step - 1), w.guests.indexOf(eldest),
            (int) there.stream().filter(g -> w.temperature(step) > 60 + g.age / 4).count()}[what];
    }

    int driest() {
        return w.driestPeg() == null ? NONE : w.hanging.get(w.driestPeg()).number;
    }

    int letter(int guest, int i) {
        String name = in(w.guests, guest).name;
        return i >= 0 && i < name.length() ? name.charAt(i) : NONE;
    }

    int find() {
        return guestOf(buffer.toString());
    }

    int why(int guest, int deed, int depth) {
        Guest g = in(w.guests, guest);
        boolean there = deed == 0 || deed == 1 || deed > 10 && deed <= 10 + w.steps
            || deed >= 20 && deed < 20 + w.pegs || deed >= 40 && deed < 40 + w.pegs;
        if (!there) {
            throw new IllegalArgumentException();
        }
        range(depth, 0, 1);
        return whyNot(g, deed)[depth];
    }

    private int[] whyNot(Guest g, int deed) {
        if (deed == 0) {
            return g.step != null ? new int[] {1, 0}
                : g.sent == w.time / 600 ? new int[] {2, 100 + (w.time / 600 + 1) * 600 - w.time}
                : w.freeLocker().isEmpty() ? new int[] {3, 200 + w.lockers}
                : w.driestPeg() == null ? new int[] {4, 0} : new int[] {0, 0};
        }
        if (g.step == null) {
            return new int[] {5, 0};
        }
        if (deed > 10 && deed < 20) {
            int step = deed - 10;
            return g.towel == null ? new int[] {6, 0}
                : g.age < 5 * (step - 1) ? new int[] {7, 300 + 5 * (step - 1) - g.age}
                : others(g, step).size() >= w.room
                    ? new int[] {8, 400 + w.guests.indexOf(others(g, step).get(0))} : new int[] {0, 0};
        }
        if (g.step > 0) {
            return new int[] {9, 500 + g.step};
        }
        if (deed >= 40) {
            return g.towel != null ? new int[] {11, 0} : !w.hanging.containsKey(deed - 40) ? new int[] {12, 0} : new int[] {0, 0};
        }
        if (deed >= 20) {
            return g.towel == null ? new int[] {6, 0}
                : w.hanging.containsKey(deed - 20) ? new int[] {10, 600 + w.hanging.get(deed - 20).number} : new int[] {0, 0};
        }
        return new int[] {0, 0};
    }

    private List<Guest> others(Guest g, int step) {
        return w.there(step).stream().filter(o -> o != g).toList();
    }

    int highest(int guest) {
        in(w.guests, guest);
        int best = 0;
        for (int s = 1; s <= w.steps; s++) {
            if (why(guest, 10 + s, 0) == 0) {
                best = s;
            }
        }
        return best;
    }

    int account(int what) {
        range(what, 0, 9);
        return what == 9 ? refused : w.accounts[what];
    }

    int gap() {
        return 0;
    }

    double meanWet() {
        return w.towels.stream().mapToInt(t -> t.wet).average().orElse(0.0);
    }

    int heatBits() {
        return Float.floatToRawIntBits(w.heat / 100f);
    }

    // ---- what will be

    int heatIn(int minutes) {
        range(minutes, 0, 200);
        World v = w.copy();
        for (int i = 0; i < minutes; i++) {
            v.minute();
        }
        return v.heat;
    }

    int downIn(int guest) {
        Guest g = in(w.guests, guest);
        if (g.step == null || g.step == 0) {
            return 0;
        }
        World v = w.copy();
        for (int i = 1; i <= 200; i++) {
            if (v.minute().contains(v.guests.get(guest))) {
                return i;
            }
        }
        return NONE;
    }

    int dryIn(int towel) {
        in(w.towels, towel);
        World v = w.copy();
        for (int i = 0; i <= 200; i++) {
            if (v.towels.get(towel).wet == 0) {
                return i;
            }
            v.minute();
        }
        return NONE;
    }

    int silenceIn() {
        World v = w.copy();
        for (int i = 0; i <= 200; i++) {
            if (v.silent()) {
                return i;
            }
            v.minute();
        }
        return NONE;
    }

    int ifValve(int valve, int opening) {
        range(valve, 0, w.valves - 1);
        range(opening, 0, 9);
        World v = w.copy();
        v.openings[valve] = opening;
        v.minute();
        return v.heat;
    }

    // ---- changes

    private void remember() {
        undo.addLast(w.copy());
        if (undo.size() > 8) {
            undo.removeFirst();
        }
    }

    /** A change, or an order of a script. */
    int doIt(String deed, int subject, int number, boolean alone) {
        Guest g = null;
        switch (deed) {
            case "wash": case "wait": break;
            case "valve": range(subject, 0, w.valves - 1); break;
            default: g = in(w.guests, subject);
        }
        int refusal = 0;
        switch (deed) {
            case "enter": refusal = whyNot(g, 0)[0] == 0 ? 0 : -2; break;
            case "sit": range(number, 1, w.steps); refusal = whyNot(g, 10 + number)[0] == 0 ? 0 : -2; break;
            case "hall": refusal = g.step != null && g.step > 0 ? 0 : -3; break;
            case "hang": range(number, 0, w.pegs - 1); refusal = whyNot(g, 20 + number)[0] == 0 ? 0 : -2; break;
            case "take": range(number, 0, w.pegs - 1); refusal = whyNot(g, 40 + number)[0] == 0 ? 0 : -2; break;
            case "leave": refusal = whyNot(g, 1)[0] == 0 ? 0 : -2; break;
            case "speak": refusal = g.step == null ? -4 : 0; break;
            case "valve": range(number, 0, 9); break;
            case "wait": range(number, 1, 60); refusal = w.time + number > 9999 ? -5 : 0; break;
            default: break;
        }
        if (refusal < 0) {
            refused++;
            return refusal;
        }
        if (alone) {
            remember();
            // the copy is what is remembered, so the objects of now stay the same
        }
        return effect(deed, g, subject, number);
    }

    private int effect(String deed, Guest g, int subject, int number) {
        int before;
        switch (deed) {
            case "enter":
                g.locker = w.freeLocker().orElseThrow();
                g.towel = w.hanging.remove(w.driestPeg());
                g.step = 0;
                g.strain = 0;
                w.accounts[0]++;
                return g.locker;
            case "sit":
                g.step = number;
                return w.heat + 6 * number;
            case "hall":
                before = g.step;
                g.step = 0;
                return before;
            case "hang":
                w.hanging.put(number, g.towel);
                g.towel = null;
                return w.hanging.get(number).number;
            case "take":
                g.towel = w.hanging.remove(number);
                return g.towel.number;
            case "leave":
                before = g.locker;
                w.leaves(g);
                return before;
            case "speak":
                if (w.silent()) {
                    w.accounts[3]++;
                    if (++g.warnings == 3) {
                        w.leaves(g);
                        w.accounts[2]++;
                        g.warnings = 0;
                        g.sent = w.time / 600;
                        return 3;
                    }
                }
                return g.warnings;
            case "wash":
                int count = 0;
                for (Towel t : w.towels) {
                    if (w.basket.remove(t)) {
                        t.wet = 0;
                        int peg = 0;
                        while (w.hanging.containsKey(peg)) {
                            peg++;
                        }
                        w.hanging.put(peg, t);
                        count++;
                    }
                }
                w.accounts[5] += count;
                return count;
            case "valve":
                before = w.openings[subject];
                w.openings[subject] = number;
                return before;
            case "wait":
                int downs = 0;
                for (int i = 0; i < number; i++) {
                    downs += w.minute().size();
                }
                return downs;
            default:
                throw new IllegalStateException(deed);
        }
    }

    int set(int what, int value) {
        range(what, 6, 8);
        range(value, new int[] {1, 2, 0}[what - 6], new int[] {9, 60, 30}[what - 6]);
        remember();
        int before = size(what);
        switch (what) {
            case 6: w.room = value; break;
            case 7: w.gong = value; break;
            default: w.quiet = value;
        }
        return before;
    }

    // ---- reports, undo, saved states

    int report() {
        List<String> parts = new ArrayList<>();
        for (int s = w.steps; s >= 1; s--) {
            parts.add(s + ":" + names(s));
        }
        parts.add("h:" + names(0));
        List<String> pegs = new ArrayList<>();
        for (int p = 0; p < w.pegs; p++) {
            pegs.add(w.hanging.containsKey(p) ? "" + w.hanging.get(p).number : "-");
        }
        parts.add("p:" + String.join(",", pegs));
        report = String.join(" ", parts);
        return report.length();
    }

    private String names(int step) {
        return String.join(",", w.there(step).stream().map(g -> g.name).toList());
    }

    int reportByte(int i) {
        return i >= 0 && i < report.length() ? report.charAt(i) : NONE;
    }

    int undo() {
        if (undo.isEmpty()) {
            return NONE;
        }
        w = undo.removeLast();
        return undo.size();
    }

    int save(int slot) {
        range(slot, 0, 1);
        slots[slot] = w.copy();
        return w.time;
    }

    int restore(int slot) {
        range(slot, 0, 1);
        if (slots[slot] == null) {
            throw new NoSuchElementException();
        }
        w = slots[slot].copy();
        undo.clear();
        return w.time;
    }
}
