import java.util.NoSuchElementException;

/** What all tests share: counting wrong answers, and putting texts into the buffer. */
final class Check {
    private static int wrong = 0;
    private static int made = 0;
    private static String current = "";

    private Check() {
    }

    /** One test: its name, a promise and a case, stands ahead of each fault in it. */
    static void test(String name, Runnable body) {
        int before = made;
        current = name + ": ";
        try {
            body.run();
        } catch (RuntimeException e) {
            fault("it threw " + e + " at " + e.getStackTrace()[0]);
        }
        if (made == before) {
            fault("it looked at no answer");
        }
        current = "";
    }

    static void due(String call, long got, long want) {
        made++;
        if (got != want) {
            fault(call + " answered " + got + ", due is " + want);
        }
    }

    static void dueText(String call, String got, String want) {
        made++;
        if (!got.equals(want)) {
            int at = firstDifference(got, want);
            fault(call + " answered '" + around(got, at) + "', due is '" + around(want, at) + "', from sign " + at + " on");
        }
    }

    private static int firstDifference(String one, String other) {
        int at = 0;
        while (at < one.length() && at < other.length() && one.charAt(at) == other.charAt(at)) {
            at++;
        }
        return at;
    }

    /** The text near a place: one of thousands of signs would hide what is wrong. */
    private static String around(String text, int at) {
        int from = Math.max(0, at - 40);
        int to = Math.min(text.length(), at + 40);
        return (from > 0 ? ".." : "") + text.substring(from, to) + (to < text.length() ? ".." : "");
    }

    static void dueDouble(String call, double got, double want) {
        made++;
        if (Double.compare(got, want) != 0) {
            fault(call + " answered " + got + ", due is " + want);
        }
    }

    static void fault(String what) {
        wrong++;
        if (wrong <= 60) {
            System.out.println(current + what);
        }
    }

    /** The call must throw IllegalArgumentException, and change nothing. */
    static void refuses(HotSteps x, String call, Runnable run) {
        String before = look(x);
        isOutOfRange(call, run);
        dueText("all behind " + call, look(x), before);
    }

    /** The call must throw NoSuchElementException, and change nothing. */
    static void findsNothing(HotSteps x, String call, Runnable run) {
        String before = look(x);
        isNotFound(call, run);
        dueText("all behind " + call, look(x), before);
    }

    /** The call must throw IllegalArgumentException; what it leaves is looked at by refuses, which takes many calls. */
    static void isOutOfRange(String call, Runnable run) {
        throwsThis(IllegalArgumentException.class, call, run);
    }

    /** The call must throw NoSuchElementException; what it leaves is looked at by findsNothing. */
    static void isNotFound(String call, Runnable run) {
        throwsThis(NoSuchElementException.class, call, run);
    }

    private static void throwsThis(Class<? extends RuntimeException> due, String call, Runnable run) {
        made++;
        try {
            run.run();
            fault(call + " threw nothing, due is " + due.getSimpleName());
        } catch (RuntimeException e) {
            if (e.getClass() != due) {
                fault(call + " threw " + e + ", due is " + due.getSimpleName());
            }
        }
    }

    /** A call that must be refused with this code: nothing but account 9 changes. */
    static void refused(HotSteps x, String call, java.util.function.IntSupplier run, int code) {
        String before = lookAtState(x);
        int account = x.account(9);
        int changes = x.size(16);
        due(call, run.getAsInt(), code);
        due("account(9) behind " + call, x.account(9), account + 1);
        due("size(16) behind " + call, x.size(16), changes);
        dueText("all but account 9 behind " + call, lookAtState(x), before);
    }

    static void put(HotSteps x, String text) {
        for (int from = 0; from < text.length(); from += 20) {
            int[] five = new int[5];
            for (int i = 0; i < 20; i++) {
                int sign = from + i < text.length() ? text.charAt(from + i) : 0;
                five[i / 4] = five[i / 4] << 8 | sign;
            }
            x.feed(five[0], five[1], five[2], five[3], five[4]);
        }
    }

    static int load(HotSteps x, String setup) {
        put(x, setup);
        return x.load();
    }

    static int play(HotSteps x, String script) {
        put(x, script);
        return x.play();
    }

    /** A bathhouse by a setup without an error. */
    static HotSteps house(String setup) {
        HotSteps x = new HotSteps();
        if (load(x, setup) < 0) {
            fault("the setup '" + setup + "' has an error at " + x.errorPosition());
        }
        return x;
    }

    /** A bathhouse of the setup's eight numbers, with guests a, b, c and so on of these ages. */
    static HotSteps houseOf(String numbers, int... ages) {
        StringBuilder setup = new StringBuilder("bath " + numbers);
        for (int i = 0; i < ages.length; i++) {
            setup.append(";guest ").append((char) ('a' + i)).append(' ').append(ages[i]);
        }
        return house(setup.toString());
    }

    /** The guests from 0 on enter. */
    static void enter(HotSteps x, int guests) {
        for (int guest = 0; guest < guests; guest++) {
            due("enter(" + guest + ")", x.enter(guest) >= 0 ? 1 : 0, 1);
        }
    }

    /** Opens the four valves of a house by so much together. */
    static void steam(HotSteps x, int sum) {
        int left = sum;
        for (int valve = 0; valve < 4; valve++) {
            int part = Math.min(9, left);
            x.valve(valve, part);
            left -= part;
        }
    }

    /** Brings HEAT to a number by four valves, and opens them so that it stays. */
    static void heatTo(HotSteps x, int heat) {
        for (int i = 0; i < 30 && x.size(10) != heat; i++) {
            int now = x.size(10);
            steam(x, Math.max(0, Math.min(36, heat - now + 3 + now / 20)));
            x.waits(1);
        }
        due("HEAT brought to " + heat, x.size(10), heat);
        steam(x, 3 + heat / 20);
    }

    /** Brings TIME to a number that is not behind it, in few calls. */
    static void timeTo(HotSteps x, int time) {
        int left = time - x.size(9);
        while (left >= 60) {
            int hours = Math.min(20, left / 60);
            play(x, "again " + hours + "(wait 60;);");
            left -= 60 * hours;
        }
        if (left > 0) {
            x.waits(left);
        }
        due("TIME brought to " + time, x.size(9), time);
    }

    static String report(HotSteps x) {
        int length = x.report();
        StringBuilder signs = new StringBuilder();
        for (int i = 0; i < length; i++) {
            signs.append((char) x.reportByte(i));
        }
        return signs.toString();
    }

    /** All that the calls of "as it is now" tell of the state, and account 9 and size 16. */
    static String look(HotSteps x) {
        return lookAtState(x) + " " + x.account(9) + " " + x.size(16);
    }

    /** All of it that undoing restores: without account 9 and the number of changes. */
    static String lookAtState(HotSteps x) {
        StringBuilder all = new StringBuilder();
        for (int what = 0; what <= 15; what++) {
            all.append(x.size(what)).append(' ');
        }
        int guests = x.size(0);
        for (int guest = 0; guest < guests; guest++) {
            all.append("\nguest ");
            for (int what = 0; what <= 8; what++) {
                all.append(x.guest(guest, what)).append(' ');
            }
            for (int i = 0; i < 6; i++) {
                all.append(x.letter(guest, i)).append(' ');
            }
        }
        int towels = x.size(3);
        for (int towel = 0; towel < towels; towel++) {
            all.append("\ntowel ");
            for (int what = 0; what <= 3; what++) {
                all.append(x.towel(towel, what)).append(' ');
            }
        }
        int pegs = x.size(2);
        all.append("\npegs ");
        for (int peg = 0; peg < pegs; peg++) {
            all.append(x.peg(peg)).append(' ');
        }
        int lockers = x.size(1);
        all.append("\nlockers ");
        for (int locker = 0; locker < lockers; locker++) {
            all.append(x.locker(locker)).append(' ');
        }
        int valves = x.size(4);
        all.append("\nopenings ");
        for (int valve = 0; valve < valves; valve++) {
            all.append(x.opening(valve)).append(' ');
        }
        all.append("\naccounts ");
        for (int what = 0; what <= 8; what++) {
            all.append(x.account(what)).append(' ');
        }
        return all.append("\ngap ").append(x.gap()).append(" silence ").append(x.silenceIn()).toString();
    }

    static void end(String test) {
        System.out.println(test + ": " + made + " answers looked at, " + wrong + " wrong");
        if (wrong != 0) {
            System.exit(1);
        }
    }
}
