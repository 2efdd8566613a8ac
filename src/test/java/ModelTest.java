import java.util.Random;

/** Random runs of 512 calls, each answered by HotSteps and by the Model. Always the same runs. */
public final class ModelTest {
    private static final String[] NAMES = {"ada", "ben", "cai", "dov", "eli", "a", "b", "guest", "enter", "again", "zzzzzz", "wait", "fay", "gus",
        "hal", "ida", "jo", "kim", "lea", "mo"};
    private static final String[] CALLS = {"feed", "load", "play", "errorPosition", "size", "guest", "towel", "peg", "locker", "opening", "step",
        "driest", "letter", "find", "why", "highest", "account", "gap", "meanWet", "heatBits", "heatIn", "downIn", "dryIn", "silenceIn", "ifValve",
        "enter", "sit", "hall", "hang", "take", "leave", "speak", "wash", "valve", "waits", "set", "report", "reportByte", "undo", "save", "restore"};
    private static final int[] CHANGES = {25, 25, 26, 26, 26, 26, 27, 27, 28, 29, 30, 31, 32, 33, 33, 34, 34, 34, 35, 38, 39, 40};

    private static final int[] QUESTIONS = {4, 5, 5, 5, 5, 6, 6, 6, 7, 7, 8, 9, 10, 10, 11, 12, 14, 14, 14, 14, 15, 16, 17, 18, 19, 20, 21, 21, 22, 22, 23, 24};
    private static final int MOST_CALLS = 512;

    private final Random random;
    private final int run;
    private HotSteps x = new HotSteps();
    private Model m = new Model();
    private int calls;

    private ModelTest(int run) {
        this.run = run;
        this.random = new Random(run);
    }

    public static void main(String[] args) {
        int runs = args.length > 0 ? Integer.parseInt(args[0]) : 3000;
        for (int run = 1; run <= runs; run++) {
            new ModelTest(run).go();
        }
        Check.end("ModelTest");
    }

    private int any(int least, int most) {
        return least + random.nextInt(most - least + 1);
    }

    private void go() {
        int mood = any(0, 3);
        if (mood > 0) {
            feedText(setup(mood == 3));
            both(1, 0, 0, 0);
        }
        int before = -1;
        int lastChange = any(40, 470);
        while (calls < lastChange) {
            if (random.nextInt(25) == 0) {
                feedText(random.nextInt(4) == 0 ? NAMES[any(0, NAMES.length - 1)] : random.nextInt(12) == 0 ? setup(true) : script());
                both(13, 0, 0, 0);
                both(random.nextInt(20) == 0 ? 1 : 2, 0, 0, 0);
                both(3, 0, 0, 0);
            }
            int call = random.nextInt(3) > 0 ? CHANGES[any(0, CHANGES.length - 1)] : any(1, CALLS.length - 1);
            if ((call == 1 || call == 40) && random.nextInt(4) > 0) {
                call = 34;
            }
            if (call == 38 && random.nextInt(3) > 0) {
                call = before >= 0 ? before : 34;
            }
            before = call;
            ask(call);
        }
        lookAround();
    }

    private void ask(int call) {
        int a = argument(call, 0);
        int b = argument(call, 1);
        for (int i = 0; i < 12 && random.nextInt(9) > 0 && !isPossible(call, a, b); i++) {
            a = argument(call, 0);
            b = argument(call, 1);
        }
        both(call, a, b, argument(call, 2));
    }

    /** Asks up to the 512th call: the report, its bytes, and what else there is to ask. */
    private void lookAround() {
        both(36, 0, 0, 0);
        while (calls < MOST_CALLS) {
            ask(random.nextInt(5) == 0 ? 37 : QUESTIONS[any(0, QUESTIONS.length - 1)]);
        }
    }

    private boolean isPossible(int call, int a, int b) {
        try {
            switch (CALLS[call]) {
                case "enter": return m.why(a, 0, 0) == 0;
                case "leave": return m.why(a, 1, 0) == 0;
                case "sit": return m.why(a, 10 + b, 0) == 0;
                case "hang": return m.why(a, 20 + b, 0) == 0;
                case "take": return m.why(a, 40 + b, 0) == 0;
                case "hall": case "downIn": return m.guest(a, 1) > 0;
                case "speak": return m.guest(a, 1) >= 0;
                case "dryIn": return m.towel(a, 0) > 0;
                default: return true;
            }
        } catch (IllegalArgumentException e) {
            return false;
        }
    }

    /** Mostly a number that there is, sometimes one beside it, seldom a far one. */
    private int argument(int call, int place) {
        int odd = random.nextInt(40);
        if (odd == 0) {
            return new int[] {Integer.MIN_VALUE, Integer.MAX_VALUE, -1, 100, -2, Integer.MIN_VALUE + 5, 61}[any(0, 6)];
        }
        int edge = odd < 3 ? 1 : 0;
        int guests = Math.max(0, m.size(0) - 1);
        int pegs = m.size(2) - 1;
        switch (CALLS[call] + place) {
            case "size0": return any(-edge, 16 + edge);
            case "guest1": return any(-edge, 8 + edge);
            case "towel0": case "dryIn0": return any(-edge, m.size(3) - 1 + edge + (m.size(3) == 0 ? 1 : 0));
            case "towel1": return any(-edge, 3 + edge);
            case "peg0": case "hang1": case "take1": return any(-edge, pegs + edge);
            case "locker0": return any(-edge, m.size(1) - 1 + edge);
            case "opening0": case "ifValve0": case "valve0": return any(-edge, m.size(4) - 1 + edge);
            case "step0": case "sit1": return any(1 - edge, m.size(5) + edge);
            case "step1": return any(-edge, 4 + edge);
            case "letter1": return any(-1, 6);
            case "why1": return new int[] {0, 1, 10 + any(0, 7), 20 + any(-1, 16), 40 + any(-1, 16), any(-1, 60)}[any(0, 5)];
            case "why2": return any(-edge, 1 + edge);
            case "account0": return any(-edge, 9 + edge);
            case "heatIn0": return random.nextBoolean() ? any(-edge, 200 + edge) : any(0, 12);
            case "ifValve1": case "valve1": return random.nextInt(3) == 0 ? any(3, 5) : any(-edge, 9 + edge);
            case "waits0": return random.nextInt(6) == 0 ? any(1 - edge, 60 + edge) : any(1, 6);
            case "set0": return any(6 - edge, 8 + edge);
            case "set1": return random.nextBoolean() ? any(1, 3) : any(-edge, 61);
            case "reportByte0": return any(-1, 90);
            case "save0": case "restore0": return any(-edge, 1 + edge);
            default: return any(-edge, guests + edge);
        }
    }

    private String setup(boolean broken) {
        StringBuilder s = new StringBuilder("bath ");
        int pegs = any(1, 16);
        int towels = random.nextBoolean() ? pegs : any(0, pegs);
        int[] numbers = {any(1, 12), pegs, towels, any(1, 4), any(1, 6), any(1, 4), random.nextBoolean() ? any(2, 9) : any(2, 60), any(0, 30)};
        for (int number : numbers) {
            s.append(number).append(random.nextInt(9) == 0 ? "\n " : " ");
        }
        int guests = any(0, random.nextInt(6) == 0 ? 17 : 16);
        for (int i = 0; i < guests; i++) {
            String name = broken && random.nextInt(12) == 0 ? NAMES[any(0, NAMES.length - 1)] : NAMES[i];
            s.append(";guest ").append(name).append(random.nextInt(4) == 0 ? "" : " ").append(random.nextInt(3) == 0 ? any(0, 20) : any(0, 99));
        }
        return broken ? broken(s) : s.toString();
    }

    private String script() {
        StringBuilder s = new StringBuilder();
        orders(s, 0, any(0, random.nextInt(8) == 0 ? 34 : 8));
        return random.nextInt(3) == 0 ? broken(s) : s.toString();
    }

    private void orders(StringBuilder s, int depth, int count) {
        for (int i = 0; i < count; i++) {
            if (depth == 0 && count > 3 && random.nextInt(3) == 0) {
                s.append(random.nextBoolean() ? "wash;" : "wait " + any(1, 3) + ";");
                continue;
            }
            String name = NAMES[any(0, Math.min(NAMES.length, Math.max(1, m.size(0)) + (random.nextInt(30) == 0 ? 1 : 0)) - 1)];
            switch (any(0, 13)) {
                case 0: case 1: s.append("enter ").append(name); break;
                case 2: case 3: s.append("sit ").append(name).append(any(1, m.size(5) + (random.nextInt(9) == 0 ? 1 : 0))); break;
                case 4: s.append("hall ").append(name); break;
                case 5: s.append("hang ").append(name).append(' ').append(any(0, m.size(2) - 1)); break;
                case 6: s.append("take ").append(name).append(' ').append(any(0, m.size(2) - 1)); break;
                case 7: s.append("leave ").append(name); break;
                case 8: case 9: s.append("speak ").append(name); break;
                case 10: s.append("wash"); break;
                case 11: s.append("valve ").append(any(0, m.size(4) - 1)).append(' ').append(any(0, 9)); break;
                case 12: s.append("wait ").append(any(1, 60)); break;
                default:
                    s.append("again ").append(any(0, 20)).append(" (");
                    orders(s, depth + 1, depth > 1 && random.nextInt(4) > 0 ? 0 : any(0, 3));
                    s.append(")");
            }
            s.append(random.nextInt(5) == 0 ? " ;\n" : ";");
        }
    }

    /** A text with one place changed, or cut off. */
    private String broken(StringBuilder s) {
        int times = any(0, 2);
        for (int i = 0; i < times && s.length() > 1; i++) {
            int at = any(0, s.length() - 1);
            switch (any(0, 4)) {
                case 0: s.deleteCharAt(at); break;
                case 1: s.insert(at, "az09;() \n.A\t\u00e9\u00ff-".charAt(any(0, 14))); break;
                case 2: s.setCharAt(at, "az09;() \n.A\t\u00e9\u00ff-".charAt(any(0, 14))); break;
                case 3: s.insert(at, new String[] {" 99999999999999999999 ", " abcdefg ", " 007 ", " guest ", " wait ", " ; "}[any(0, 5)]); break;
                default: s.setLength(at);
            }
        }
        return s.toString();
    }

    private void feedText(String text) {
        for (int from = 0; from < text.length() && calls < MOST_CALLS; from += 20) {
            int[] five = new int[5];
            for (int i = 0; i < 20; i++) {
                int sign = from + i < text.length() ? text.charAt(from + i) : 0;
                five[i / 4] |= sign << 24 - i % 4 * 8;
            }
            calls++;
            Check.due("run " + run + " feed", x.feed(five[0], five[1], five[2], five[3], five[4]), m.feed(five));
        }
    }

    private void both(int call, int a, int b, int c) {
        if (calls >= MOST_CALLS) {
            return;
        }
        calls++;
        String got = answer(x, call, a, b, c);
        String want = answer(m, call, a, b, c);
        Check.dueText("run " + run + ", call " + calls + ": " + CALLS[call] + "(" + a + ", " + b + ", " + c + ")", got, want);
    }

    private static String answer(HotSteps x, int call, int a, int b, int c) {
        try {
            switch (CALLS[call]) {
                case "load": return "" + x.load();
                case "play": return "" + x.play();
                case "errorPosition": return "" + x.errorPosition();
                case "size": return "" + x.size(a);
                case "guest": return "" + x.guest(a, b);
                case "towel": return "" + x.towel(a, b);
                case "peg": return "" + x.peg(a);
                case "locker": return "" + x.locker(a);
                case "opening": return "" + x.opening(a);
                case "step": return "" + x.step(a, b);
                case "driest": return "" + x.driest();
                case "letter": return "" + x.letter(a, b);
                case "find": return "" + x.find();
                case "why": return "" + x.why(a, b, c);
                case "highest": return "" + x.highest(a);
                case "account": return "" + x.account(a);
                case "gap": return "" + x.gap();
                case "meanWet": return "" + x.meanWet();
                case "heatBits": return "" + x.heatBits();
                case "heatIn": return "" + x.heatIn(a);
                case "downIn": return "" + x.downIn(a);
                case "dryIn": return "" + x.dryIn(a);
                case "silenceIn": return "" + x.silenceIn();
                case "ifValve": return "" + x.ifValve(a, b);
                case "enter": return "" + x.enter(a);
                case "sit": return "" + x.sit(a, b);
                case "hall": return "" + x.hall(a);
                case "hang": return "" + x.hang(a, b);
                case "take": return "" + x.take(a, b);
                case "leave": return "" + x.leave(a);
                case "speak": return "" + x.speak(a);
                case "wash": return "" + x.wash();
                case "valve": return "" + x.valve(a, b);
                case "waits": return "" + x.waits(a);
                case "set": return "" + x.set(a, b);
                case "report": return "" + x.report();
                case "reportByte": return "" + x.reportByte(a);
                case "undo": return "" + x.undo();
                case "save": return "" + x.save(a);
                case "restore": return "" + x.restore(a);
                default: throw new AssertionError(CALLS[call]);
            }
        } catch (RuntimeException e) {
            return e.getClass().getSimpleName();
        }
    }

    private static String answer(Model m, int call, int a, int b, int c) {
        try {
            switch (CALLS[call]) {
                case "load": return "" + m.load();
                case "play": return "" + m.play();
                case "errorPosition": return "" + m.errorPosition();
                case "size": return "" + m.size(a);
                case "guest": return "" + m.guest(a, b);
                case "towel": return "" + m.towel(a, b);
                case "peg": return "" + m.peg(a);
                case "locker": return "" + m.locker(a);
                case "opening": return "" + m.opening(a);
                case "step": return "" + m.step(a, b);
                case "driest": return "" + m.driest();
                case "letter": return "" + m.letter(a, b);
                case "find": return "" + m.find();
                case "why": return "" + m.why(a, b, c);
                case "highest": return "" + m.highest(a);
                case "account": return "" + m.account(a);
                case "gap": return "" + m.gap();
                case "meanWet": return "" + m.meanWet();
                case "heatBits": return "" + m.heatBits();
                case "heatIn": return "" + m.heatIn(a);
                case "downIn": return "" + m.downIn(a);
                case "dryIn": return "" + m.dryIn(a);
                case "silenceIn": return "" + m.silenceIn();
                case "ifValve": return "" + m.ifValve(a, b);
                case "enter": case "sit": case "hall": case "hang": case "take": case "leave": case "speak": case "wash": case "valve":
                    return "" + m.doIt(CALLS[call], a, b, true);
                case "waits": return "" + m.doIt("wait", 0, a, true);
                case "set": return "" + m.set(a, b);
                case "report": return "" + m.report();
                case "reportByte": return "" + m.reportByte(a);
                case "undo": return "" + m.undo();
                case "save": return "" + m.save(a);
                case "restore": return "" + m.restore(a);
                default: throw new AssertionError(CALLS[call]);
            }
        } catch (RuntimeException e) {
            return e.getClass().getSimpleName();
        }
    }
}
