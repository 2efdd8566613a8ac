/** The boundary cases of "Terms": guests, lockers, towels, pegs, steam, steps, silence and a minute, a test each. */
public final class EdgeTermsTest {
    private static final int NONE = HotSteps.NONE;

    public static void main(String[] args) {
        guests();
        lockers();
        towels();
        steam();
        steps();
        silence();
        gong();
        wet();
        strain();
        comingDown();
        Check.end("EdgeTermsTest");
    }

    private static void test(String name, Runnable body) {
        Check.test(name, body);
    }

    private static void due(String call, long got, long want) {
        Check.due(call, got, want);
    }

    private static void isOutOfRange(String call, Runnable run) {
        Check.isOutOfRange(call, run);
    }

    // ---- guests, lockers

    private static void guests() {
        test("Promise 7, guests: at first each is OUT, with no STRAIN, no WARNINGS, no LOCKER and no TOWEL", EdgeTermsTest::guestAtFirst);
        test("Promise 7, guests: 16 are numbered from 0 to 15 as they were told", EdgeTermsTest::sixteenGuests);
        test("Promise 7, guests: without any there is no GUEST 0", EdgeTermsTest::noGuests);
        test("Promise 7, guests: STRAIN and WARNINGS stay as one leaves, STRAIN is 0 as it ENTERS", EdgeTermsTest::strainOfOneWhoLeaves);
    }

    private static void guestAtFirst() {
        HotSteps x = Check.houseOf("1 1 1 1 1 1 2 0", 0, 99);
        int[] first = {0, NONE, NONE, NONE, 0, 0, 60, 1, NONE};
        for (int what = 0; what < first.length; what++) {
            due("guest(0, " + what + ")", x.guest(0, what), first[what]);
        }
        due("guest(1, 0)", x.guest(1, 0), 99);
    }

    private static void sixteenGuests() {
        HotSteps x = Check.houseOf("1 1 1 1 1 1 2 0", 0, 1, 2, 3, 4, 5, 6, 7, 8, 9, 10, 11, 12, 13, 14, 15);
        due("size(0)", x.size(0), 16);
        for (int guest = 0; guest < 16; guest++) {
            due("letter(" + guest + ", 0)", x.letter(guest, 0), 'a' + guest);
            due("guest(" + guest + ", 0)", x.guest(guest, 0), guest);
        }
        isOutOfRange("guest(16, 0)", () -> x.guest(16, 0));
    }

    private static void noGuests() {
        HotSteps x = Check.houseOf("2 3 3 1 2 1 2 30");
        due("size(0)", x.size(0), 0);
        isOutOfRange("guest(0, 0)", () -> x.guest(0, 0));
        isOutOfRange("enter(0)", () -> x.enter(0));
        due("waits(60)", x.waits(60), 0);
        due("step(2, 3)", x.step(2, 3), NONE);
        due("wash()", x.wash(), 0);
        due("gap()", x.gap(), 0);
        Check.dueText("report()", Check.report(x), "2: 1: h: p:0,1,2");
    }

    private static void strainOfOneWhoLeaves() {
        HotSteps x = Check.houseOf("1 2 2 4 1 1 20 30", 0);
        Check.heatTo(x, 55);
        Check.timeTo(x, 20);
        x.enter(0);
        x.speak(0);
        x.sit(0, 1);
        x.waits(3);
        due("guest(0, 4)", x.guest(0, 4), 3);
        x.hall(0);
        x.leave(0);
        x.waits(2);
        due("guest(0, 4), OUT", x.guest(0, 4), 3);
        due("guest(0, 5), OUT", x.guest(0, 5), 1);
        x.enter(0);
        due("guest(0, 4), in again", x.guest(0, 4), 0);
        due("guest(0, 5), in again", x.guest(0, 5), 1);
    }

    private static void lockers() {
        test("Promise 10, lockers: one LOCKER, free and with a key", EdgeTermsTest::oneLocker);
        test("Promise 10, lockers: all 12 are with a GUEST each, and none is free for the 13th", EdgeTermsTest::twelveLockers);
        test("Promise 10, lockers: each GUEST who is not OUT has one, on a STEP too; one who is OUT has none", EdgeTermsTest::keyOfEach);
    }

    private static void oneLocker() {
        HotSteps x = Check.houseOf("1 2 2 1 1 1 2 0", 5, 5);
        due("locker(0)", x.locker(0), NONE);
        due("enter(1)", x.enter(1), 0);
        due("locker(0), with a key", x.locker(0), 1);
        due("enter(0)", x.enter(0), -2);
        x.leave(1);
        due("locker(0), free again", x.locker(0), NONE);
        due("enter(0), now", x.enter(0), 0);
    }

    private static void twelveLockers() {
        HotSteps x = Check.houseOf("12 16 16 1 1 1 2 0", 5, 5, 5, 5, 5, 5, 5, 5, 5, 5, 5, 5, 5);
        due("size(14)", x.size(14), 12);
        for (int guest = 0; guest < 12; guest++) {
            due("enter(" + guest + ")", x.enter(guest), guest);
            due("size(14)", x.size(14), 11 - guest);
        }
        for (int locker = 0; locker < 12; locker++) {
            due("locker(" + locker + ")", x.locker(locker), locker);
        }
        due("enter(12)", x.enter(12), -2);
        due("guest(12, 2)", x.guest(12, 2), NONE);
        x.leave(7);
        due("enter(12), when 7 is free", x.enter(12), 7);
        due("locker(7)", x.locker(7), 12);
    }

    private static void keyOfEach() {
        HotSteps x = Check.houseOf("3 3 3 1 1 1 2 0", 5, 5, 5);
        Check.enter(x, 3);
        x.sit(1, 1);
        x.leave(2);
        int[] want = {0, 1, NONE};
        for (int guest = 0; guest < 3; guest++) {
            due("guest(" + guest + ", 2)", x.guest(guest, 2), want[guest]);
            due("locker(" + guest + ")", x.locker(guest), want[guest] == NONE ? NONE : guest);
        }
    }

    // ---- towels, pegs

    private static void towels() {
        test("Promise 8 and 9, towels: TOWEL K hangs on PEG K at first, and PEGS beyond the TOWELS are free", EdgeTermsTest::towelsAtFirst);
        test("Promise 8 and 9, towels: no TOWEL hangs on two PEGS", EdgeTermsTest::noTowelOnTwoPegs);
        test("Promise 8 and 9, towels: a GUEST has at most one", EdgeTermsTest::oneTowelEach);
        test("Promise 8 and 9, towels: a PEG holds at most one", EdgeTermsTest::oneTowelOnPeg);
        test("Promise 8 and 9, towels: as many as PEGS, all of 16 are on a PEG", EdgeTermsTest::allPegsFull);
    }

    private static void towelsAtFirst() {
        for (int towels : new int[] {0, 1, 15, 16}) {
            HotSteps x = Check.houseOf("1 16 " + towels + " 1 1 1 2 0", 5);
            due("size(3)", x.size(3), towels);
            for (int peg = 0; peg < 16; peg++) {
                due("peg(" + peg + ") of " + towels, x.peg(peg), peg < towels ? peg : NONE);
            }
            for (int towel = 0; towel < towels; towel++) {
                due("towel(" + towel + ", 0)", x.towel(towel, 0), 0);
                due("towel(" + towel + ", 1)", x.towel(towel, 1), towel);
            }
            due("enter(0) with " + towels, x.enter(0), towels == 0 ? -2 : 0);
        }
    }

    private static void noTowelOnTwoPegs() {
        HotSteps x = Check.houseOf("3 4 3 1 1 3 60 0", 9, 9, 9);
        String[] orders = {"enter a;", "hang a 3;", "enter b;", "hang b 0;", "take a 0;", "hang a 1;", "take b 2;", "leave b;", "wash;",
            "take a 1;", "hang a 2;", "enter c; leave c; leave a; wash;"};
        for (String order : orders) {
            due("play of " + order, Check.play(x, order) > 0 ? 1 : 0, 1);
            for (int towel = 0; towel < 3; towel++) {
                int pegs = 0;
                for (int peg = 0; peg < 4; peg++) {
                    pegs += x.peg(peg) == towel ? 1 : 0;
                }
                due("PEGS of TOWEL " + towel + " behind " + order, pegs, x.towel(towel, 1) == NONE ? 0 : 1);
            }
        }
        due("no order was refused", x.account(9), 0);
    }

    private static void oneTowelEach() {
        HotSteps x = Check.houseOf("1 3 3 1 1 1 2 0", 5);
        x.enter(0);
        due("take(0, 1)", x.take(0, 1), -2);
        due("guest(0, 3)", x.guest(0, 3), 0);
        due("peg(1)", x.peg(1), 1);
        x.hang(0, 0);
        due("take(0, 2), without one", x.take(0, 2), 2);
        due("guest(0, 3), then", x.guest(0, 3), 2);
    }

    private static void oneTowelOnPeg() {
        HotSteps x = Check.houseOf("2 2 2 1 1 1 2 0", 5, 5);
        x.enter(0);
        due("hang(0, 1)", x.hang(0, 1), -2);
        due("peg(1)", x.peg(1), 1);
        due("hang(0, 0)", x.hang(0, 0), 0);
        due("peg(0)", x.peg(0), 0);
    }

    private static void allPegsFull() {
        HotSteps x = Check.houseOf("1 16 16 1 1 1 2 0", 5);
        x.enter(0);
        for (int peg = 1; peg < 16; peg++) {
            due("hang(0, " + peg + ")", x.hang(0, peg), -2);
        }
        due("hang(0, 0)", x.hang(0, 0), 0);
        due("take(0, 15)", x.take(0, 15), 15);
        due("hang(0, 15)", x.hang(0, 15), 15);
    }

    // ---- steam, steps

    private static void steam() {
        test("Promise 36, steam: HEAT is 30 at first, OPENINGS are 0", EdgeTermsTest::steamAtFirst);
        test("Promise 36, steam: HEAT becomes 100, and no more than 100", EdgeTermsTest::heatAtMost100);
        test("Promise 36, steam: HEAT becomes 0, and no less than 0", EdgeTermsTest::heatAtLeast0);
        test("Promise 36, steam: HEAT divided by 20 is rounded down, at each multiple of 20 and one below", EdgeTermsTest::heatBy20);
        test("Promise 36, steam: HEAT becomes less by HEAT as it was, not as it becomes", EdgeTermsTest::heatAsItWas);
        test("Promise 36, steam: all of 1 and of 4 OPENINGS count, at 0 and at 9", EdgeTermsTest::allOpenings);
    }

    private static void steamAtFirst() {
        HotSteps x = Check.houseOf("1 1 1 4 1 1 2 0");
        due("size(10)", x.size(10), 30);
        for (int valve = 0; valve < 4; valve++) {
            due("opening(" + valve + ")", x.opening(valve), 0);
        }
    }

    private static void heatBehind(int heat, int steam, int want) {
        HotSteps x = Check.houseOf("1 1 1 4 1 1 2 0");
        Check.heatTo(x, heat);
        Check.steam(x, steam);
        x.waits(1);
        due("HEAT behind " + heat + " with " + steam, x.size(10), want);
    }

    /** From 92 it becomes 7 less, so that steam of 15 makes 100. */
    private static void heatAtMost100() {
        heatBehind(92, 14, 99);
        heatBehind(92, 15, 100);
        heatBehind(92, 16, 100);
        heatBehind(92, 36, 100);
        heatBehind(100, 36, 100);
    }

    private static void heatAtLeast0() {
        heatBehind(4, 0, 1);
        heatBehind(3, 0, 0);
        heatBehind(2, 0, 0);
        heatBehind(1, 0, 0);
        heatBehind(0, 0, 0);
    }

    private static void heatBy20() {
        int[][] cases = {{19, 16}, {20, 16}, {39, 35}, {40, 35}, {59, 54}, {60, 54}, {79, 73}, {80, 73}, {99, 92}, {100, 92}};
        for (int[] one : cases) {
            heatBehind(one[0], 0, one[1]);
        }
    }

    /** 30 and 36 less 4; by 66 or 62 as it becomes it would be 6 less. */
    private static void heatAsItWas() {
        HotSteps x = Check.houseOf("1 1 1 4 1 1 2 0");
        Check.steam(x, 36);
        x.waits(1);
        due("size(10)", x.size(10), 62);
    }

    private static void allOpenings() {
        HotSteps one = Check.houseOf("1 1 1 1 1 1 2 0");
        due("heatIn(1), shut", one.heatIn(1), 26);
        one.valve(0, 9);
        due("heatIn(1), open", one.heatIn(1), 35);
        HotSteps four = Check.houseOf("1 1 1 4 1 1 2 0");
        for (int valve = 0; valve < 4; valve++) {
            four.valve(valve, 9);
            due("heatIn(1), " + (valve + 1) + " open", four.heatIn(1), 26 + 9 * (valve + 1));
        }
    }

    private static void steps() {
        test("Promise 12, steps: TEMPERATURE of the lowest and the highest STEP, at HEAT 0 and 100", EdgeTermsTest::temperatures);
        test("Promise 28, steps: AGE of exactly 5 times (K less 1) is enough, one less is not", EdgeTermsTest::ageOfStep);
        test("Promise 7, steps: what one BEARS is rounded down, from AGE 0 to 99", EdgeTermsTest::bears);
        test("Promise 28, steps: ROOM of 1 and of 9 becomes full", EdgeTermsTest::roomBecomesFull);
    }

    private static void temperatures() {
        HotSteps x = Check.houseOf("1 1 1 4 6 1 2 0");
        Check.heatTo(x, 0);
        due("step(1, 1) at 0", x.step(1, 1), 6);
        due("step(6, 1) at 0", x.step(6, 1), 36);
        Check.heatTo(x, 100);
        due("step(1, 1) at 100", x.step(1, 1), 106);
        due("step(6, 1) at 100", x.step(6, 1), 136);
    }

    private static void ageOfStep() {
        for (int step = 2; step <= 6; step++) {
            HotSteps x = Check.houseOf("2 2 2 1 6 2 2 0", 5 * step - 6, 5 * step - 5);
            Check.enter(x, 2);
            due("sit(0, " + step + ")", x.sit(0, step), -2);
            due("sit(1, " + step + ")", x.sit(1, step), 30 + 6 * step);
            due("sit(0, " + (step - 1) + ")", x.sit(0, step - 1), 24 + 6 * step);
        }
        HotSteps y = Check.houseOf("1 1 1 1 6 1 2 0", 0);
        y.enter(0);
        due("sit(0, 1) with AGE 0", y.sit(0, 1), 36);
    }

    private static void bears() {
        int[] ages = {0, 3, 4, 7, 8, 95, 96, 99};
        int[] want = {60, 60, 61, 61, 62, 83, 84, 84};
        HotSteps x = Check.houseOf("1 1 1 1 6 1 2 0", ages);
        for (int guest = 0; guest < ages.length; guest++) {
            due("guest(" + guest + ", 6)", x.guest(guest, 6), want[guest]);
        }
    }

    private static void roomBecomesFull() {
        for (int room : new int[] {1, 9}) {
            HotSteps x = Check.houseOf("12 16 16 1 1 " + room + " 2 0", 5, 5, 5, 5, 5, 5, 5, 5, 5, 5);
            Check.enter(x, 10);
            for (int guest = 0; guest < room; guest++) {
                due("sit(" + guest + ", 1)", x.sit(guest, 1), 36);
            }
            due("one more than " + room, x.sit(9, 1), -2);
            due("step(1, 0)", x.step(1, 0), room);
        }
    }

    // ---- silence

    private static void silence() {
        test("Promise 6, silence: there is none ahead of the first gong, though TIME is less than QUIET", EdgeTermsTest::noSilenceAtFirst);
        test("Promise 6, silence: its first and its last minute, and the first behind it", EdgeTermsTest::lastMinuteOfSilence);
        test("Promise 6, silence: QUIET of 0, there is never any", EdgeTermsTest::quietOf0);
        test("Promise 6, silence: QUIET of 1, the minute of the gong alone", EdgeTermsTest::quietOf1);
        test("Promise 6, silence: QUIET one less than GONG, as GONG, and more: it has one minute without, or no end", EdgeTermsTest::quietAsGong);
        test("Promise 6, silence: QUIET of 30 and GONG of 60, the most of both", EdgeTermsTest::quietAndGongAtMost);
        test("Promise 6, silence: there is at TIME 9999 what the latest gong left", EdgeTermsTest::silenceAt9999);
    }

    private static void noSilenceAtFirst() {
        HotSteps x = Check.houseOf("1 1 1 1 1 1 10 30", 5);
        x.enter(0);
        for (int time = 0; time < 10; time++) {
            due("size(15) at " + time, x.size(15), 0);
            due("speak(0) at " + time, x.speak(0), 0);
            x.waits(1);
        }
        due("size(15) at 10", x.size(15), 1);
    }

    private static void silences(HotSteps x, int from, int... want) {
        Check.timeTo(x, from);
        for (int i = 0; i < want.length; i++) {
            due("size(15) at " + (from + i), x.size(15), want[i]);
            x.waits(1);
        }
    }

    private static void lastMinuteOfSilence() {
        silences(Check.houseOf("1 1 1 1 1 1 20 5"), 19, 0, 1, 1, 1, 1, 1, 0, 0);
        silences(Check.houseOf("1 1 1 1 1 1 20 5"), 39, 0, 1, 1, 1, 1, 1, 0, 0);
    }

    private static void quietOf0() {
        silences(Check.houseOf("1 1 1 1 1 1 3 0"), 0, 0, 0, 0, 0, 0, 0, 0);
    }

    private static void quietOf1() {
        silences(Check.houseOf("1 1 1 1 1 1 3 1"), 0, 0, 0, 0, 1, 0, 0, 1, 0);
    }

    private static void quietAsGong() {
        silences(Check.houseOf("1 1 1 1 1 1 4 3"), 3, 0, 1, 1, 1, 0, 1, 1, 1, 0);
        silences(Check.houseOf("1 1 1 1 1 1 4 4"), 3, 0, 1, 1, 1, 1, 1, 1, 1, 1, 1);
        silences(Check.houseOf("1 1 1 1 1 1 2 30"), 1, 0, 1, 1, 1, 1, 1, 1, 1);
    }

    private static void quietAndGongAtMost() {
        silences(Check.houseOf("1 1 1 1 1 1 60 30"), 59, 0, 1);
        silences(Check.houseOf("1 1 1 1 1 1 60 30"), 89, 1, 0);
        silences(Check.houseOf("1 1 1 1 1 1 60 30"), 119, 0, 1);
    }

    private static void silenceAt9999() {
        HotSteps x = Check.houseOf("1 1 1 1 1 1 20 20");
        Check.timeTo(x, 9999);
        due("size(15)", x.size(15), 1);
        x.set(8, 19);
        due("size(15), 9999 is 9980 and 19", x.size(15), 0);
    }

    // ---- a minute

    private static void gong() {
        test("Promise 36, a minute: the gong sounds at each multiple of GONG, and not one minute beside it", EdgeTermsTest::gongAtMultiples);
        test("Promise 36, a minute: GONG of 2 and of 60, the least and the most", EdgeTermsTest::gongLeastAndMost);
        test("Promise 36, a minute: by another GONG it sounds at the multiples of that", EdgeTermsTest::gongOfAnotherNumber);
        test("Promise 36, a minute: the gong does not sound at TIME 0", () -> due("account(7)", new HotSteps().account(7), 0));
    }

    private static void gongAtMultiples() {
        HotSteps x = Check.houseOf("1 1 1 1 1 1 7 1");
        for (int time = 1; time <= 30; time++) {
            x.waits(1);
            due("account(7) at " + time, x.account(7), time / 7);
        }
    }

    private static void gongLeastAndMost() {
        HotSteps x = Check.houseOf("1 1 1 1 1 1 2 1");
        x.waits(1);
        due("account(7) at 1 by 2", x.account(7), 0);
        x.waits(1);
        due("account(7) at 2 by 2", x.account(7), 1);
        HotSteps y = Check.houseOf("1 1 1 1 1 1 60 1");
        y.waits(59);
        due("account(7) at 59 by 60", y.account(7), 0);
        y.waits(1);
        due("account(7) at 60 by 60", y.account(7), 1);
        y.waits(60);
        due("account(7) at 120 by 60", y.account(7), 2);
    }

    private static void gongOfAnotherNumber() {
        HotSteps x = Check.houseOf("1 1 1 1 1 1 10 1");
        x.waits(10);
        x.set(7, 7);
        x.waits(3);
        due("account(7) at 13", x.account(7), 1);
        x.waits(1);
        due("account(7) at 14", x.account(7), 2);
        x.waits(6);
        due("account(7) at 20", x.account(7), 2);
    }

    private static void wet() {
        test("Promise 36, a minute: WET becomes 9 on a STEP and no more, nor does account 6", EdgeTermsTest::wetAtMost9);
        test("Promise 36, a minute: WET becomes 0 on a PEG and no less", EdgeTermsTest::wetAtLeast0);
        test("Promise 36, a minute: WET on a PEG becomes less at HEAT 59, not at 60, by HEAT as it becomes", EdgeTermsTest::wetAt59);
        test("Promise 36, a minute: WET stays with a GUEST in the HALL, and in the BASKET", EdgeTermsTest::wetStays);
        test("Promise 36, a minute: WET becomes greater in the minute in which one comes DOWN to the HALL", EdgeTermsTest::wetAsOneComesDown);
        test("Promise 36, a minute: WET becomes greater on the lowest and on the highest STEP", EdgeTermsTest::wetOnEachStep);
    }

    private static void wetAtMost9() {
        HotSteps x = Check.houseOf("1 1 1 1 1 1 2 0", 5);
        x.enter(0);
        x.sit(0, 1);
        x.waits(8);
        due("towel(0, 0) behind 8", x.towel(0, 0), 8);
        x.waits(1);
        due("towel(0, 0) behind 9", x.towel(0, 0), 9);
        due("account(6) behind 9", x.account(6), 9);
        x.waits(1);
        due("towel(0, 0) behind 10", x.towel(0, 0), 9);
        due("account(6) behind 10", x.account(6), 9);
    }

    private static void wetAtLeast0() {
        HotSteps x = Check.houseOf("1 1 1 1 1 1 2 0", 5);
        x.enter(0);
        x.sit(0, 1);
        x.waits(1);
        x.hall(0);
        x.hang(0, 0);
        x.waits(1);
        due("towel(0, 0)", x.towel(0, 0), 0);
        x.waits(1);
        due("towel(0, 0), still", x.towel(0, 0), 0);
        due("meanWet() * 10", (long) (x.meanWet() * 10), 0);
    }

    /** A wet towel hangs; HEAT goes from 59 to 60, stays, goes back to 59, and stays. */
    private static void wetAt59() {
        HotSteps x = Check.houseOf("1 1 1 4 1 1 60 0", 99);
        Check.heatTo(x, 59);
        x.enter(0);
        x.sit(0, 1);
        x.waits(5);
        x.hall(0);
        x.hang(0, 0);
        due("HEAT", x.size(10), 59);
        Check.steam(x, 6);
        x.waits(1);
        due("HEAT then", x.size(10), 60);
        due("towel(0, 0), from 59 to 60", x.towel(0, 0), 5);
        x.waits(1);
        due("towel(0, 0) at 60", x.towel(0, 0), 5);
        Check.steam(x, 5);
        x.waits(1);
        due("HEAT behind that", x.size(10), 59);
        due("towel(0, 0), from 60 to 59", x.towel(0, 0), 4);
        x.waits(1);
        due("towel(0, 0) at 59", x.towel(0, 0), 3);
    }

    private static void wetStays() {
        HotSteps x = Check.houseOf("2 2 2 1 1 2 2 0", 5, 5);
        Check.enter(x, 2);
        x.sit(0, 1);
        x.sit(1, 1);
        x.waits(2);
        x.hall(0);
        x.hall(1);
        x.leave(1);
        x.waits(5);
        due("towel(0, 0) in the HALL", x.towel(0, 0), 2);
        due("towel(1, 0) in the BASKET", x.towel(1, 0), 2);
        due("account(6)", x.account(6), 4);
    }

    /** The towels change ahead of the guests, who are still on their steps then. */
    private static void wetAsOneComesDown() {
        HotSteps x = onFirstStep(100);
        due("waits(1)", x.waits(1), 1);
        due("guest(0, 1)", x.guest(0, 1), 0);
        due("towel(0, 0)", x.towel(0, 0), 1);
        x.waits(1);
        due("towel(0, 0), in the HALL", x.towel(0, 0), 1);
    }

    private static void wetOnEachStep() {
        HotSteps x = Check.houseOf("2 2 2 1 6 1 2 0", 99, 99);
        Check.enter(x, 2);
        x.sit(0, 1);
        x.sit(1, 6);
        x.waits(1);
        due("towel(0, 0) on STEP 1", x.towel(0, 0), 1);
        due("towel(1, 0) on STEP 6", x.towel(1, 0), 1);
    }

    private static void strain() {
        test("Promise 36, a minute: STRAIN at a TEMPERATURE as one BEARS becomes less, one above it greater by 1", EdgeTermsTest::strainAtWhatOneBears);
        test("Promise 36, a minute: STRAIN by the difference divided by 5, rounded down, and 1", EdgeTermsTest::strainBy5);
        test("Promise 36, a minute: STRAIN is at least 0, on a STEP and in the HALL", EdgeTermsTest::strainAtLeast0);
        test("Promise 36, a minute: STRAIN becomes 1 less in the HALL, however hot it is", EdgeTermsTest::strainInHall);
        test("Promise 36, a minute: STRAIN of a GUEST who is OUT stays, at HEAT 0 and 100", EdgeTermsTest::strainOfOneOut);
        test("Promise 36, a minute: STRAIN is by HEAT as it becomes", EdgeTermsTest::strainByNewHeat);
    }

    /** A guest of AGE 0 bears 60, which STEP 1 has at HEAT 54. */
    private static HotSteps onFirstStep(int heat) {
        HotSteps x = Check.houseOf("1 1 1 4 1 1 60 0", 0);
        Check.heatTo(x, heat);
        x.enter(0);
        x.sit(0, 1);
        return x;
    }

    private static void strainAtWhatOneBears() {
        HotSteps x = onFirstStep(55);
        x.waits(4);
        due("guest(0, 4), one above", x.guest(0, 4), 4);
        Check.steam(x, 4);
        x.waits(1);
        due("TEMPERATURE", x.step(1, 1), 60);
        due("guest(0, 4), as it BEARS", x.guest(0, 4), 3);
        due("step(1, 4)", x.step(1, 4), 0);
    }

    private static void strainBy5() {
        int[][] cases = {{55, 1}, {58, 1}, {59, 2}, {63, 2}, {64, 3}, {98, 9}};
        for (int[] one : cases) {
            HotSteps x = onFirstStep(one[0]);
            x.waits(1);
            due("guest(0, 4) at " + (one[0] - 54) + " above", x.guest(0, 4), one[1]);
        }
    }

    private static void strainAtLeast0() {
        HotSteps x = onFirstStep(54);
        x.waits(2);
        due("guest(0, 4) on a STEP", x.guest(0, 4), 0);
        x.hall(0);
        x.waits(2);
        due("guest(0, 4) in the HALL", x.guest(0, 4), 0);
    }

    private static void strainInHall() {
        HotSteps x = onFirstStep(98);
        x.waits(1);
        x.hall(0);
        for (int strain = 8; strain >= 0; strain--) {
            x.waits(1);
            due("guest(0, 4)", x.guest(0, 4), strain);
        }
    }

    private static void strainOfOneOut() {
        for (int heat : new int[] {0, 100}) {
            HotSteps x = onFirstStep(64);
            x.waits(1);
            x.hall(0);
            x.leave(0);
            Check.heatTo(x, heat);
            x.waits(9);
            due("guest(0, 4) at " + heat, x.guest(0, 4), 3);
            due("guest(0, 1) at " + heat, x.guest(0, 1), NONE);
            due("account(4) at " + heat, x.account(4), 0);
        }
    }

    private static void strainByNewHeat() {
        HotSteps x = onFirstStep(54);
        Check.steam(x, 6);
        x.waits(1);
        due("guest(0, 4), from 54 to 55", x.guest(0, 4), 1);
        Check.steam(x, 4);
        x.waits(1);
        due("guest(0, 4), from 55 to 54", x.guest(0, 4), 0);
    }

    private static void comingDown() {
        test("Promise 36, a minute: STRAIN of 9 is not enough to come DOWN, 10 is", EdgeTermsTest::downAt10);
        test("Promise 36, a minute: by far more than 10 one comes DOWN once, and STRAIN is 5 then", EdgeTermsTest::downOnce);
        test("Promise 36, a minute: from STEP 1 one comes DOWN to the HALL", EdgeTermsTest::downToHall);
        test("Promise 36, a minute: DOWN to the next lower STEP, past each one without ROOM", EdgeTermsTest::downPastFullSteps);
        test("Promise 36, a minute: DOWN to the HALL when no lower STEP has ROOM", EdgeTermsTest::downWithoutRoom);
        test("Promise 36, a minute: in the HALL there is always ROOM, also for all 12", EdgeTermsTest::downToFullHall);
        test("Promise 36, a minute: a STEP with ROOM for one more takes one who comes DOWN", EdgeTermsTest::downToLastRoom);
        test("Promise 36, a minute: a STEP with more GUESTS than ROOM, by set, takes none", EdgeTermsTest::downPastTooManyGuests);
        test("Promise 36, a minute: they come DOWN by numbers, so the lower number makes ROOM for the greater", EdgeTermsTest::lowerNumberMakesRoom);
        test("Promise 36, a minute: they come DOWN by numbers, so the lower number finds no ROOM by the greater", EdgeTermsTest::lowerNumberFindsNoRoom);
    }

    private static void downAt10() {
        HotSteps x = onFirstStep(55);
        due("waits(9)", x.waits(9), 0);
        due("guest(0, 4)", x.guest(0, 4), 9);
        due("guest(0, 1)", x.guest(0, 1), 1);
        due("waits(1)", x.waits(1), 1);
        due("guest(0, 4), then", x.guest(0, 4), 5);
        due("guest(0, 1), then", x.guest(0, 1), 0);
        due("account(4)", x.account(4), 1);
    }

    private static void downOnce() {
        HotSteps x = Check.houseOf("1 1 1 4 6 1 60 0", 25);
        Check.heatTo(x, 100);
        x.enter(0);
        x.sit(0, 6);
        // 136 is 70 above 66: 15 at once
        due("waits(1)", x.waits(1), 1);
        due("guest(0, 1)", x.guest(0, 1), 5);
        due("guest(0, 4)", x.guest(0, 4), 5);
        // 130 is 64 above: 13 more
        due("waits(1), again", x.waits(1), 1);
        due("guest(0, 1), again", x.guest(0, 1), 4);
        due("guest(0, 4), again", x.guest(0, 4), 5);
    }

    private static void downToHall() {
        HotSteps x = onFirstStep(100);
        // 106 is 46 above 60: exactly 10
        due("waits(1)", x.waits(1), 1);
        due("guest(0, 1)", x.guest(0, 1), 0);
        due("guest(0, 4)", x.guest(0, 4), 5);
        due("guest(0, 3)", x.guest(0, 3), 0);
        due("waits(1), in the HALL", x.waits(1), 0);
    }

    /** Guest 0 bears 66; those of AGE 99 bear 84: at HEAT 79 they bear STEP 1 without STRAIN, and STEP 2 and 3 for a while. */
    private static HotSteps sixSteps(String room, int guests) {
        int[] ages = new int[guests];
        java.util.Arrays.fill(ages, 99);
        ages[0] = 25;
        HotSteps x = Check.houseOf("12 16 16 4 6 " + room + " 60 0", ages);
        Check.heatTo(x, 79);
        Check.enter(x, guests);
        return x;
    }

    private static void downPastFullSteps() {
        HotSteps x = sixSteps("1", 4);
        x.sit(0, 6);
        x.sit(1, 5);
        x.sit(2, 4);
        // 115 is 49 above 66: 10; the others 109 and 103 above 84: 6 and 4
        due("waits(1)", x.waits(1), 1);
        due("guest(0, 1)", x.guest(0, 1), 3);
        due("guest(1, 1)", x.guest(1, 1), 5);
        due("guest(2, 1)", x.guest(2, 1), 4);
    }

    private static void downWithoutRoom() {
        HotSteps x = sixSteps("1", 6);
        x.sit(0, 6);
        for (int guest = 1; guest < 6; guest++) {
            x.sit(guest, guest);
        }
        due("waits(1)", x.waits(1), 1);
        due("guest(0, 1)", x.guest(0, 1), 0);
        due("guest(0, 4)", x.guest(0, 4), 5);
        due("size(12)", x.size(12), 5);
    }

    private static void downToFullHall() {
        HotSteps x = sixSteps("1", 12);
        x.sit(0, 6);
        for (int guest = 1; guest < 6; guest++) {
            x.sit(guest, guest);
        }
        due("waits(1)", x.waits(1), 1);
        due("guest(0, 1)", x.guest(0, 1), 0);
        due("size(11) less size(12)", x.size(11) - x.size(12), 7);
    }

    private static void downToLastRoom() {
        HotSteps x = sixSteps("2", 4);
        x.sit(0, 6);
        x.sit(1, 5);
        x.sit(2, 4);
        x.sit(3, 4);
        due("waits(1)", x.waits(1), 1);
        due("guest(0, 1)", x.guest(0, 1), 5);
        due("step(5, 0)", x.step(5, 0), 2);
    }

    private static void downPastTooManyGuests() {
        HotSteps x = sixSteps("3", 4);
        x.sit(0, 6);
        x.sit(1, 5);
        x.sit(2, 5);
        x.sit(3, 4);
        x.set(6, 1);
        due("waits(1)", x.waits(1), 1);
        due("guest(0, 1)", x.guest(0, 1), 3);
    }

    /** Both have a STRAIN of 10 in the same minute, one STEP above the other. */
    private static HotSteps twoComeDown(int above, int below) {
        HotSteps x = Check.houseOf("2 2 2 4 6 1 60 0", 25, 25);
        Check.heatTo(x, 100);
        Check.enter(x, 2);
        x.sit(above, 6);
        x.sit(below, 5);
        due("waits(1)", x.waits(1), 2);
        due("account(4)", x.account(4), 2);
        return x;
    }

    private static void lowerNumberMakesRoom() {
        HotSteps x = twoComeDown(1, 0);
        due("guest(0, 1)", x.guest(0, 1), 4);
        due("guest(1, 1)", x.guest(1, 1), 5);
    }

    private static void lowerNumberFindsNoRoom() {
        HotSteps x = twoComeDown(0, 1);
        // 0 finds STEP 5 full and goes to 4; then 1 finds 4 full and goes to 3
        due("guest(0, 1)", x.guest(0, 1), 4);
        due("guest(1, 1)", x.guest(1, 1), 3);
    }
}
