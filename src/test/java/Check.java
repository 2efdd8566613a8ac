import java.util.NoSuchElementException;

/** What all tests share: counting wrong answers, and putting texts into the buffer. */
final class Check {
    private static int wrong = 0;
    private static int made = 0;

    private Check() {
    }

    static void due(String call, long got, long want) {
        made++;
        if (got != want) {
            fault(call + " answered " + got + ", due is " + want);
        }
    }

    static void dueText(String call, String got, String want) {
        made++;
        if (!got.equals(want)) {
            int at = firstDifference(got, want);
            fault(call + " answered '" + around(got, at) + "', due is '" + around(want, at) + "', from sign " + at + " on");
        }
    }

    private static int firstDifference(String one, String other) {
        int at = 0;
        while (at < one.length() && at < other.length() && one.charAt(at) == other.charAt(at)) {
            at++;
        }
        return at;
    }

    /** The text near a place: one of thousands of signs would hide what is wrong. */
    private static String around(String text, int at) {
        int from = Math.max(0, at - 40);
        int to = Math.min(text.length(), at + 40);
        return (from > 0 ? ".." : "") + text.substring(from, to) + (to < text.length() ? ".." : "");
    }

    static void dueDouble(String call, double got, double want) {
        made++;
        if (Double.compare(got, want) != 0) {
            fault(call + " answered " + got + ", due is " + want);
        }
    }

    static void fault(String what) {
        wrong++;
        if (wrong <= 60) {
            System.out.println(what);
        }
    }

    /** The call must throw IllegalArgumentException, and change nothing. */
    static void refuses(HotSteps x, String call, Runnable run) {
        made++;
        String before = look(x);
        try {
            run.run();
            fault(call + " threw nothing, due is IllegalArgumentException");
        } catch (RuntimeException e) {
            if (e.getClass() != IllegalArgumentException.class) {
                fault(call + " threw " + e + ", due is IllegalArgumentException");
            }
        }
        dueText("all behind " + call, look(x), before);
    }

    /** The call must throw NoSuchElementException, and change nothing. */
    static void findsNothing(HotSteps x, String call, Runnable run) {
        made++;
        String before = look(x);
        try {
            run.run();
            fault(call + " threw nothing, due is NoSuchElementException");
        } catch (RuntimeException e) {
            if (e.getClass() != NoSuchElementException.class) {
                fault(call + " threw " + e + ", due is NoSuchElementException");
            }
        }
        dueText("all behind " + call, look(x), before);
    }

    /** A call that must be refused with this code: nothing but account 9 changes. */
    static void refused(HotSteps x, String call, java.util.function.IntSupplier run, int code) {
        String before = lookAtState(x);
        int account = x.account(9);
        int changes = x.size(16);
        due(call, run.getAsInt(), code);
        due("account(9) behind " + call, x.account(9), account + 1);
        due("size(16) behind " + call, x.size(16), changes);
        dueText("all but account 9 behind " + call, lookAtState(x), before);
    }

    static void put(HotSteps x, String text) {
        for (int from = 0; from < text.length(); from += 20) {
            int[] five = new int[5];
            for (int i = 0; i < 20; i++) {
                int sign = from + i < text.length() ? text.charAt(from + i) : 0;
                five[i / 4] = five[i / 4] << 8 | sign;
            }
            x.feed(five[0], five[1], five[2], five[3], five[4]);
        }
    }

    static int load(HotSteps x, String setup) {
        put(x, setup);
        return x.load();
    }

    static int play(HotSteps x, String script) {
        put(x, script);
        return x.play();
    }

    /** A bathhouse by a setup without an error. */
    static HotSteps house(String setup) {
        HotSteps x = new HotSteps();
        if (load(x, setup) < 0) {
            fault("the setup '" + setup + "' has an error at " + x.errorPosition());
        }
        return x;
    }

    static String report(HotSteps x) {
        int length = x.report();
        StringBuilder signs = new StringBuilder();
        for (int i = 0; i < length; i++) {
            signs.append((char) x.reportByte(i));
        }
        return signs.toString();
    }

    /** All that the calls of "as it is now" tell of the state, and account 9 and size 16. */
    static String look(HotSteps x) {
        return lookAtState(x) + " " + x.account(9) + " " + x.size(16);
    }

    /** All of it that undoing restores: without account 9 and the number of changes. */
    static String lookAtState(HotSteps x) {
        StringBuilder all = new StringBuilder();
        for (int what = 0; what <= 15; what++) {
            all.append(x.size(what)).append(' ');
        }
        for (int guest = 0; guest < x.size(0); guest++) {
            all.append("\nguest ");
            for (int what = 0; what <= 8; what++) {
                all.append(x.guest(guest, what)).append(' ');
            }
            for (int i = 0; i < 6; i++) {
                all.append(x.letter(guest, i)).append(' ');
            }
        }
        for (int towel = 0; towel < x.size(3); towel++) {
            all.append("\ntowel ");
            for (int what = 0; what <= 3; what++) {
                all.append(x.towel(towel, what)).append(' ');
            }
        }
        all.append("\npegs ");
        for (int peg = 0; peg < x.size(2); peg++) {
            all.append(x.peg(peg)).append(' ');
        }
        all.append("\nlockers ");
        for (int locker = 0; locker < x.size(1); locker++) {
            all.append(x.locker(locker)).append(' ');
        }
        all.append("\nopenings ");
        for (int valve = 0; valve < x.size(4); valve++) {
            all.append(x.opening(valve)).append(' ');
        }
        all.append("\naccounts ");
        for (int what = 0; what <= 8; what++) {
            all.append(x.account(what)).append(' ');
        }
        return all.append("\ngap ").append(x.gap()).append(" silence ").append(x.silenceIn()).toString();
    }

    static void end(String test) {
        System.out.println(test + ": " + made + " answers looked at, " + wrong + " wrong");
        if (wrong != 0) {
            System.exit(1);
        }
    }
}
