import java.util.function.IntSupplier;

/** The boundary cases of promises 1, 6 to 12, 18 to 26, 38 and 39: what is, what will be and the report, a test each. */
public final class EdgeAnswersTest {
    private static final int NONE = HotSteps.NONE;
    private static final int LEAST = Integer.MIN_VALUE;
    private static final int MOST = Integer.MAX_VALUE;
    private static final String LARGEST = "12 16 16 4 6 9 60 30";
    private static final String SMALLEST = "1 1 0 1 1 1 2 0";

    public static void main(String[] args) {
        newObject();
        ranges();
        size();
        guest();
        towelPegLocker();
        step();
        account();
        gap();
        meanWet();
        heatBits();
        heatIn();
        downIn();
        dryIn();
        silenceIn();
        ifValve();
        report();
        reportByte();
        Check.end("EdgeAnswersTest");
    }

    private static void test(String name, Runnable body) {
        Check.test(name, body);
    }

    private static void due(String call, long got, long want) {
        Check.due(call, got, want);
    }

    private static HotSteps largest() {
        return Check.houseOf(LARGEST, 99, 99, 99, 99, 99, 99, 99, 99, 99, 99, 99, 99, 99, 99, 99, 99);
    }

    // ---- promise 1

    private static void newObject() {
        test("Promise 1, empty: the buffer, the report, what can be undone, and both slots", () -> {
            HotSteps x = new HotSteps();
            due("the buffer", x.feed(0, 0, 0, 0, 0), 0);
            due("reportByte(0)", x.reportByte(0), NONE);
            due("undo()", x.undo(), NONE);
            due("errorPosition()", x.errorPosition(), NONE);
            Check.findsNothing(x, "restore(0)", () -> x.restore(0));
        });
        test("Promise 1: as by its setup", () -> Check.dueText("all", Check.look(new HotSteps()),
            Check.look(Check.house("bath 4 6 5 2 4 2 20 5; guest ada 34; guest ben 8; guest cai 61; guest dov 15; guest eli 22"))));
        test("Promise 1: two objects are apart", () -> {
            HotSteps x = new HotSteps();
            HotSteps y = new HotSteps();
            x.enter(0);
            x.waits(5);
            due("size(9) of the other", y.size(9), 0);
            due("enter(1) of the other", y.enter(1), 0);
            due("locker(0)", x.locker(0), 0);
        });
        test("Promise 1, the constants: NONE is -1", () -> due("NONE", HotSteps.NONE, -1));
    }

    // ---- numbers out of their ranges

    /** The call takes the numbers from least to most, and throws at one beside and at those far out; nothing changes. */
    private static void range(String name, int least, int most, java.util.function.Supplier<HotSteps> house,
            java.util.function.BiFunction<HotSteps, Integer, Number> call) {
        if (least <= most) {
            test(name + ", range: " + least + " to " + most + " answer", () -> {
                HotSteps x = house.get();
                int answers = 0;
                for (int good = least; good <= most; good++) {
                    answers += call.apply(x, good) == null ? 0 : 1;
                }
                due("numbers that are answered", answers, most - least + 1);
            });
        }
        test(name + ", range: " + (least - 1) + " and " + (most + 1) + " throw, and numbers far out", () -> {
            HotSteps x = house.get();
            for (int bad : new int[] {least - 1, most + 1, LEAST, LEAST + 1, MOST - 1, MOST, 256 + least, 65536 + least}) {
                Check.isOutOfRange("the call for " + bad, () -> call.apply(x, bad));
            }
        });
        test(name + ", range: a call that throws changes nothing", () -> {
            HotSteps x = Check.houseOf("1 1 1 1 1 1 2 0", 5);
            x.enter(0);
            Check.refuses(x, "the call for " + MOST, () -> call.apply(x, MOST));
            due("undo(), what came before", x.undo(), 0);
        });
    }

    private static void ranges() {
        range("Promise 6: size", 0, 16, EdgeAnswersTest::largest, (x, i) -> x.size(i));
        range("Promise 7: guest, of 16", 0, 15, EdgeAnswersTest::largest, (x, i) -> x.guest(i, 0));
        range("Promise 7: guest, of 1", 0, 0, () -> Check.houseOf(SMALLEST, 5), (x, i) -> x.guest(i, 0));
        range("Promise 7: guest, what", 0, 8, EdgeAnswersTest::largest, (x, i) -> x.guest(0, i));
        range("Promise 8: towel, of 16", 0, 15, EdgeAnswersTest::largest, (x, i) -> x.towel(i, 0));
        range("Promise 8: towel, of none", 0, -1, () -> Check.houseOf(SMALLEST, 5), (x, i) -> x.towel(i, 0));
        range("Promise 8: towel, what", 0, 3, EdgeAnswersTest::largest, (x, i) -> x.towel(0, i));
        range("Promise 9: peg, of 16", 0, 15, EdgeAnswersTest::largest, (x, i) -> x.peg(i));
        range("Promise 9: peg, of 1", 0, 0, () -> Check.houseOf(SMALLEST, 5), (x, i) -> x.peg(i));
        range("Promise 10: locker, of 12", 0, 11, EdgeAnswersTest::largest, (x, i) -> x.locker(i));
        range("Promise 10: locker, of 1", 0, 0, () -> Check.houseOf(SMALLEST, 5), (x, i) -> x.locker(i));
        range("Promise 11: opening, of 4", 0, 3, EdgeAnswersTest::largest, (x, i) -> x.opening(i));
        range("Promise 11: opening, of 1", 0, 0, () -> Check.houseOf(SMALLEST, 5), (x, i) -> x.opening(i));
        range("Promise 12: step, of 6", 1, 6, EdgeAnswersTest::largest, (x, i) -> x.step(i, 0));
        range("Promise 12: step, of 1", 1, 1, () -> Check.houseOf(SMALLEST, 5), (x, i) -> x.step(i, 0));
        range("Promise 12: step, what", 0, 4, EdgeAnswersTest::largest, (x, i) -> x.step(1, i));
        range("Promise 18: account", 0, 9, EdgeAnswersTest::largest, (x, i) -> x.account(i));
        range("Promise 22: heatIn", 0, 200, EdgeAnswersTest::largest, (x, i) -> x.heatIn(i));
        range("Promise 23: downIn, of 16", 0, 15, EdgeAnswersTest::largest, (x, i) -> x.downIn(i));
        range("Promise 24: dryIn, of 16", 0, 15, EdgeAnswersTest::largest, (x, i) -> x.dryIn(i));
        range("Promise 24: dryIn, of none", 0, -1, () -> Check.houseOf(SMALLEST, 5), (x, i) -> x.dryIn(i));
        range("Promise 26: ifValve, of 4", 0, 3, EdgeAnswersTest::largest, (x, i) -> x.ifValve(i, 0));
        range("Promise 26: ifValve, of 1", 0, 0, () -> Check.houseOf(SMALLEST, 5), (x, i) -> x.ifValve(i, 0));
        range("Promise 26: ifValve, opening", 0, 9, EdgeAnswersTest::largest, (x, i) -> x.ifValve(0, i));
    }

    // ---- promises 6 to 12

    private static void sizes(HotSteps x, int... want) {
        for (int what = 0; what < want.length; what++) {
            due("size(" + what + ")", x.size(what), want[what]);
        }
    }

    private static void size() {
        test("Promise 6: the smallest house", () -> sizes(Check.houseOf(SMALLEST), 0, 1, 1, 0, 1, 1, 1, 2, 0, 0, 30, 0, 0, 0, 1, 0, 0));
        test("Promise 6: the largest house", () -> sizes(largest(), 16, 12, 16, 16, 4, 6, 9, 60, 30, 0, 30, 0, 0, 0, 12, 0, 0));
        test("Promise 6, full: all LOCKERS with a key, all GUESTS on STEPS, then all TOWELS in the BASKET", EdgeAnswersTest::sizeFull);
        test("Promise 6: GUESTS in the HALL are not OUT, and not on STEPS", EdgeAnswersTest::sizeInHall);
        test("Promise 6: changes that can be undone, 0 to 8", EdgeAnswersTest::sizeOfChanges);
    }

    private static void sizeFull() {
        HotSteps x = Check.houseOf("3 3 3 1 1 3 2 30", 5, 5, 5);
        Check.enter(x, 3);
        Check.play(x, "sit a 1;sit b 1;sit c 1;wait 2;");
        sizes(x, 3, 3, 3, 3, 1, 1, 3, 2, 30, 2, 22, 3, 3, 0, 0, 1, 4);
        Check.play(x, "hall a;hall b;hall c;leave a;leave b;leave c;");
        sizes(x, 3, 3, 3, 3, 1, 1, 3, 2, 30, 2, 22, 0, 0, 3, 3, 1, 5);
    }

    private static void sizeInHall() {
        HotSteps x = Check.houseOf("3 3 3 1 1 3 2 30", 5, 5, 5);
        Check.enter(x, 2);
        x.sit(1, 1);
        due("size(11)", x.size(11), 2);
        due("size(12)", x.size(12), 1);
        due("size(14)", x.size(14), 1);
    }

    private static void sizeOfChanges() {
        HotSteps x = new HotSteps();
        for (int i = 0; i <= 10; i++) {
            due("size(16)", x.size(16), Math.min(i, 8));
            x.wash();
        }
    }

    private static void guest() {
        test("Promise 7: NONE of one who is OUT, 0 in the HALL, and the lowest and the highest STEP", EdgeAnswersTest::guestPlaces);
        test("Promise 7: the highest STEP by AGE, at each multiple of 5 and one below, with 6 STEPS and fewer", EdgeAnswersTest::guestHighest);
        test("Promise 7: NONE without a TOWEL in the HALL, but a LOCKER", EdgeAnswersTest::guestWithout);
        test("Promise 7: AGE of 0 and of 99", EdgeAnswersTest::guestAges);
    }

    private static void guestPlaces() {
        HotSteps x = Check.houseOf("1 1 1 1 6 1 2 0", 25);
        due("guest(0, 1), OUT", x.guest(0, 1), NONE);
        x.enter(0);
        due("guest(0, 1), HALL", x.guest(0, 1), 0);
        x.sit(0, 1);
        due("guest(0, 1), lowest", x.guest(0, 1), 1);
        x.sit(0, 6);
        due("guest(0, 1), highest", x.guest(0, 1), 6);
    }

    private static void guestHighest() {
        int[] ages = {0, 4, 5, 9, 10, 14, 15, 19, 20, 24, 25, 29, 30, 99};
        int[] highest = {1, 1, 2, 2, 3, 3, 4, 4, 5, 5, 6, 6, 6, 6};
        for (int steps : new int[] {6, 3, 1}) {
            HotSteps x = Check.houseOf("1 1 1 1 " + steps + " 1 2 0", ages);
            for (int guest = 0; guest < ages.length; guest++) {
                due("guest of AGE " + ages[guest] + " of " + steps, x.guest(guest, 7), Math.min(steps, highest[guest]));
            }
        }
    }

    private static void guestWithout() {
        HotSteps x = Check.houseOf("1 1 1 1 1 1 2 0", 5);
        x.enter(0);
        x.hang(0, 0);
        due("guest(0, 3)", x.guest(0, 3), NONE);
        due("guest(0, 2)", x.guest(0, 2), 0);
    }

    private static void guestAges() {
        HotSteps x = Check.houseOf("1 1 1 1 1 1 2 0", 0, 99);
        due("guest(0, 0)", x.guest(0, 0), 0);
        due("guest(1, 0)", x.guest(1, 0), 99);
    }

    private static void towelPegLocker() {
        test("Promise 8 to 10: the last TOWEL, PEG and LOCKER, free and not free", EdgeAnswersTest::lastOfEach);
        test("Promise 8: on a PEG, with a GUEST, in the BASKET: one of these at a time", EdgeAnswersTest::towelPlaces);
    }

    private static void lastOfEach() {
        HotSteps x = largest();
        Check.enter(x, 11);
        due("locker(11)", x.locker(11), NONE);
        x.enter(15);
        due("locker(11), then", x.locker(11), 15);
        due("peg(11)", x.peg(11), NONE);
        due("peg(15)", x.peg(15), 15);
        x.hang(15, 0);
        due("peg(0)", x.peg(0), 11);
        x.take(15, 15);
        due("peg(15), then", x.peg(15), NONE);
        due("towel(15, 1)", x.towel(15, 1), NONE);
        due("towel(15, 2)", x.towel(15, 2), 15);
    }

    private static void towelIs(HotSteps x, int peg, int guest, int basket) {
        due("towel(0, 1)", x.towel(0, 1), peg);
        due("towel(0, 2)", x.towel(0, 2), guest);
        due("towel(0, 3)", x.towel(0, 3), basket);
    }

    private static void towelPlaces() {
        HotSteps x = Check.houseOf("1 1 1 1 1 1 2 0", 5);
        towelIs(x, 0, NONE, 0);
        x.enter(0);
        towelIs(x, NONE, 0, 0);
        x.leave(0);
        towelIs(x, NONE, NONE, 1);
        x.wash();
        towelIs(x, 0, NONE, 0);
    }

    private static void step() {
        test("Promise 12, empty: nobody there, so NONE is the eldest", EdgeAnswersTest::stepEmpty);
        test("Promise 12: the eldest is the lowest number of several, the first or the last of all", EdgeAnswersTest::stepEldest);
        test("Promise 12: TEMPERATURE as one BEARS does not count, one above it does", EdgeAnswersTest::stepAbove);
        test("Promise 12: AGE of 0 for the lowest STEP, 25 for the 6th", () -> {
            HotSteps x = largest();
            due("step(1, 2)", x.step(1, 2), 0);
            due("step(6, 2)", x.step(6, 2), 25);
        });
    }

    private static void stepEmpty() {
        HotSteps x = Check.houseOf("1 1 1 1 2 1 2 0", 5);
        x.enter(0);
        for (int step = 1; step <= 2; step++) {
            due("step(" + step + ", 0)", x.step(step, 0), 0);
            due("step(" + step + ", 3)", x.step(step, 3), NONE);
            due("step(" + step + ", 4)", x.step(step, 4), 0);
        }
        x.sit(0, 2);
        due("step(1, 3)", x.step(1, 3), NONE);
        due("step(2, 3)", x.step(2, 3), 0);
    }

    private static void stepEldest() {
        HotSteps x = Check.houseOf("4 4 4 1 1 9 2 0", 20, 30, 30, 31);
        Check.enter(x, 4);
        x.sit(0, 1);
        due("step(1, 3), one", x.step(1, 3), 0);
        x.sit(2, 1);
        due("step(1, 3), two", x.step(1, 3), 2);
        x.sit(1, 1);
        due("step(1, 3), as old", x.step(1, 3), 1);
        x.sit(3, 1);
        due("step(1, 3), the last", x.step(1, 3), 3);
    }

    private static void stepAbove() {
        HotSteps x = Check.houseOf("2 2 2 4 1 2 60 0", 0, 4);
        Check.enter(x, 2);
        Check.heatTo(x, 54);
        x.sit(0, 1);
        x.sit(1, 1);
        due("step(1, 4) at 60", x.step(1, 4), 0);
        Check.heatTo(x, 55);
        due("step(1, 4) at 61", x.step(1, 4), 1);
        Check.heatTo(x, 56);
        due("step(1, 4) at 62", x.step(1, 4), 2);
    }

    // ---- promises 18 to 21

    private static void account() {
        test("Promise 18: account 1 counts one who leaves and one who is SENT out", EdgeAnswersTest::accountOfLeaving);
        test("Promise 18: account 3 counts none without SILENCE, account 2 none at two WARNINGS", EdgeAnswersTest::accountOfWarnings);
        test("Promise 18: account 9 counts none of the numbers out of range, and none of load and play", EdgeAnswersTest::accountOfRefusals);
        test("Promise 18: all are 0 behind the setup", () -> {
            HotSteps x = new HotSteps();
            Check.play(x, "enter ada;enter ben;sit ada 1;leave ben;wash;wait 20;speak ada;speak ada;speak ada;hall ada;");
            Check.load(x, "bath 1 1 1 1 1 1 2 0");
            for (int what = 0; what <= 9; what++) {
                due("account(" + what + ")", x.account(what), 0);
            }
        });
    }

    private static void accountOfLeaving() {
        HotSteps x = Check.houseOf("2 2 2 1 1 1 2 30", 5, 5);
        Check.enter(x, 2);
        x.leave(0);
        due("account(1)", x.account(1), 1);
        x.waits(2);
        Check.play(x, "speak b;speak b;speak b;");
        due("account(1), then", x.account(1), 2);
        due("account(2)", x.account(2), 1);
        due("account(0)", x.account(0), 2);
    }

    private static void accountOfWarnings() {
        HotSteps x = Check.houseOf("2 2 2 1 1 1 2 30", 5, 5);
        x.enter(0);
        x.speak(0);
        due("account(3), no gong yet", x.account(3), 0);
        x.waits(2);
        x.speak(0);
        x.speak(0);
        due("account(3)", x.account(3), 2);
        due("account(2)", x.account(2), 0);
        due("speak(1), OUT", x.speak(1), -4);
        due("account(3), still", x.account(3), 2);
    }

    private static void accountOfRefusals() {
        HotSteps x = Check.houseOf("2 2 2 1 1 1 2 30", 5, 5);
        Check.isOutOfRange("enter(2)", () -> x.enter(2));
        Check.isOutOfRange("size(17)", () -> x.size(17));
        Check.load(x, "bath");
        Check.play(x, "wash");
        x.undo();
        x.feed(-1, -1, -1, -1, -1);
        due("account(9)", x.account(9), 0);
        x.leave(0);
        due("account(9), then", x.account(9), 1);
    }

    private static void gap() {
        test("Promise 19: 0 in the smallest and in the largest house, empty and full", () -> {
            due("gap() of the smallest", Check.houseOf(SMALLEST).gap(), 0);
            HotSteps x = largest();
            due("gap() of the largest", x.gap(), 0);
            Check.enter(x, 12);
            due("gap(), full", x.gap(), 0);
            Check.play(x, "hang a 0;hang b 1;sit c 1;sit d 6;wait 60;leave a;leave e;");
            due("gap(), then", x.gap(), 0);
            x.speak(3);
            Check.play(x, "speak d;speak d;wash;");
            due("guest(3, 1)", x.guest(3, 1), NONE);
            due("gap(), at last", x.gap(), 0);
            x.undo();
            due("gap(), undone", x.gap(), 0);
        });
    }

    private static void meanWet() {
        test("Promise 20, empty: 0.0 without any TOWEL", () -> Check.dueDouble("meanWet()", Check.houseOf(SMALLEST).meanWet(), 0.0));
        test("Promise 20: 0.0 of dry ones, 9.0 of the one that is as wet as can be", () -> {
            HotSteps x = Check.houseOf("1 1 1 1 1 1 2 0", 5);
            Check.dueDouble("meanWet(), dry", x.meanWet(), 0.0);
            Check.play(x, "enter a;sit a 1;wait 60;");
            Check.dueDouble("meanWet()", x.meanWet(), 9.0);
        });
        test("Promise 20: it is not rounded, of 3, 7 and 16 TOWELS, wherever they are", () -> {
            for (int towels : new int[] {3, 7, 16}) {
                HotSteps x = Check.houseOf("3 16 " + towels + " 1 1 3 60 0", 5, 5, 5);
                Check.play(x, "enter a;enter b;enter c;sit a 1;sit b 1;sit c 1;wait 2;hall b;hall c;leave b;hang c 2;");
                Check.dueDouble("meanWet() of " + towels, x.meanWet(), 6.0 / towels);
            }
        });
    }

    private static void heatBits() {
        test("Promise 21: HEAT of 0, and of 100", () -> {
            HotSteps x = Check.houseOf("1 1 1 4 1 1 2 0");
            Check.heatTo(x, 0);
            due("heatBits() at 0", x.heatBits(), 0);
            Check.heatTo(x, 100);
            due("heatBits() at 100", x.heatBits(), 0x3f800000);
        });
        test("Promise 21: HEAT of 1 to 99, each", () -> {
            for (int heat = 1; heat <= 99; heat++) {
                HotSteps x = Check.houseOf("1 1 1 4 1 1 2 0");
                Check.heatTo(x, heat);
                due("heatBits() at " + heat, x.heatBits(), Float.floatToRawIntBits((float) heat / 100f));
            }
        });
    }

    // ---- promises 22 to 26

    private static void heatIn() {
        test("Promise 22: behind 0 minutes HEAT as it is, behind 200 as 200 minutes make it", () -> {
            HotSteps x = Check.houseOf("1 1 1 4 1 1 2 0");
            due("heatIn(0)", x.heatIn(0), 30);
            Check.steam(x, 4);
            int far = x.heatIn(200);
            due("heatIn(199)", x.heatIn(199), far);
            Check.timeTo(x, 200);
            due("size(10)", x.size(10), far);
        });
        test("Promise 22: each number of minutes is one more minute", () -> {
            HotSteps x = Check.houseOf("1 1 1 4 1 1 2 0");
            Check.steam(x, 8);
            int heat = 30;
            for (int minutes = 0; minutes <= 200; minutes++) {
                due("heatIn(" + minutes + ")", x.heatIn(minutes), heat);
                heat = Math.min(100, heat + 8 - 3 - heat / 20);
            }
        });
        test("Promise 22: HEAT stays at 0, and at 100", () -> {
            HotSteps x = Check.houseOf("1 1 1 4 1 1 2 0");
            due("heatIn(9)", x.heatIn(9), 0);
            due("heatIn(10)", x.heatIn(10), 0);
            Check.steam(x, 36);
            due("heatIn(1)", x.heatIn(1), 62);
            due("heatIn(2)", x.heatIn(2), 92);
            due("heatIn(3)", x.heatIn(3), 100);
            due("heatIn(200)", x.heatIn(200), 100);
        });
    }

    /** Lets minutes pass one by one; behind how many the number is not 0 for the first time; NONE. */
    private static int minutesUntil(HotSteps x, int most, IntSupplier isThere) {
        for (int minutes = 0; minutes <= most; minutes++) {
            if (isThere.getAsInt() != 0) {
                return minutes;
            }
            x.waits(1);
        }
        return NONE;
    }

    private static void downIn() {
        test("Promise 23: 0 of one who is OUT, and of one in the HALL with STRAIN", EdgeAnswersTest::downInOffSteps);
        test("Promise 23: NONE at a TEMPERATURE as one BEARS, 10 minutes at one above", EdgeAnswersTest::downInAtWhatOneBears);
        test("Promise 23: 1 minute, at a STRAIN of 9 and by 10 at once", EdgeAnswersTest::downInOneMinute);
        test("Promise 23: the longest wait, 49 minutes, is told and does come", EdgeAnswersTest::downInLongest);
        test("Promise 23: NONE when it cools ahead of a STRAIN of 10", EdgeAnswersTest::downInCooling);
    }

    private static void downInOffSteps() {
        HotSteps x = Check.houseOf("1 1 1 4 1 1 60 0", 0);
        Check.heatTo(x, 98);
        due("downIn(0), OUT", x.downIn(0), 0);
        x.enter(0);
        due("downIn(0), HALL", x.downIn(0), 0);
        x.sit(0, 1);
        x.waits(1);
        x.hall(0);
        due("guest(0, 4)", x.guest(0, 4), 9);
        due("downIn(0), HALL with STRAIN", x.downIn(0), 0);
    }

    private static HotSteps sitting(int heat) {
        HotSteps x = Check.houseOf("1 1 1 4 1 1 60 0", 0);
        Check.heatTo(x, heat);
        x.enter(0);
        x.sit(0, 1);
        return x;
    }

    private static void downInAtWhatOneBears() {
        due("downIn(0) at 60", sitting(54).downIn(0), NONE);
        due("downIn(0) at 61", sitting(55).downIn(0), 10);
        due("downIn(0) at 65", sitting(59).downIn(0), 5);
    }

    private static void downInOneMinute() {
        HotSteps x = sitting(55);
        x.waits(9);
        due("downIn(0) at 9", x.downIn(0), 1);
        due("waits(1)", x.waits(1), 1);
        due("downIn(0), in the HALL", x.downIn(0), 0);
        due("downIn(0) by 10 at once", sitting(100).downIn(0), 1);
    }

    /**
     * From HEAT 0 it becomes warmer by 4, 3, 2 and 1 each minute, up to 80. No other state has a longer wait,
     * so that none is told or not by the 200th minute.
     */
    private static void downInLongest() {
        HotSteps x = Check.houseOf("1 1 1 4 1 1 60 0", 99);
        Check.heatTo(x, 0);
        x.enter(0);
        x.sit(0, 1);
        Check.steam(x, 7);
        due("downIn(0)", x.downIn(0), 49);
        due("waits(1) so often", minutesUntil(x, 60, () -> x.account(4)), 49);
    }

    private static void downInCooling() {
        HotSteps x = sitting(98);
        x.waits(1);
        due("guest(0, 4)", x.guest(0, 4), 9);
        due("downIn(0)", x.downIn(0), 1);
        HotSteps y = sitting(64);
        Check.steam(y, 0);
        // 58, 53 and less: 64 is 4 above 60, the next ones are not
        due("downIn(0), cooling", y.downIn(0), NONE);
        y.waits(60);
        due("account(4)", y.account(4), 0);
    }

    private static void dryIn() {
        test("Promise 24: 0 of a dry TOWEL on a PEG, with a GUEST on a STEP, and in the BASKET", EdgeAnswersTest::dryInNow);
        test("Promise 24: NONE of a wet TOWEL with a GUEST, and in the BASKET", EdgeAnswersTest::dryInNever);
        test("Promise 24: 1 minute by a WET of 1, 9 by 9", EdgeAnswersTest::dryInOnPeg);
        test("Promise 24: at HEAT 59 it dries, at 60 NONE", EdgeAnswersTest::dryInAt59);
        test("Promise 24: the longest wait, 38 minutes, is told and does come", EdgeAnswersTest::dryInLongest);
        test("Promise 24: it begins to dry, and does not come to 0 as it becomes hot", EdgeAnswersTest::dryInWarming);
    }

    private static void dryInNow() {
        HotSteps x = Check.houseOf("3 3 3 1 1 3 60 0", 5, 5);
        Check.enter(x, 2);
        x.sit(0, 1);
        x.leave(1);
        for (int towel = 0; towel < 3; towel++) {
            due("dryIn(" + towel + ")", x.dryIn(towel), 0);
        }
    }

    private static void dryInNever() {
        HotSteps x = Check.houseOf("2 2 2 1 1 3 60 0", 5, 5);
        Check.play(x, "enter a;enter b;sit a 1;sit b 1;wait 1;hall b;");
        due("dryIn(0) on a STEP", x.dryIn(0), NONE);
        due("dryIn(1) in the HALL", x.dryIn(1), NONE);
        x.leave(1);
        due("dryIn(1) in the BASKET", x.dryIn(1), NONE);
        x.wash();
        due("dryIn(1), washed", x.dryIn(1), 0);
    }

    private static HotSteps hanging(int wet) {
        HotSteps x = Check.houseOf("1 1 1 4 1 1 60 0", 99);
        x.enter(0);
        x.sit(0, 1);
        x.waits(wet);
        x.hall(0);
        x.hang(0, 0);
        due("towel(0, 0)", x.towel(0, 0), wet);
        return x;
    }

    private static void dryInOnPeg() {
        due("dryIn(0) by 1", hanging(1).dryIn(0), 1);
        HotSteps x = hanging(9);
        for (int minutes = 9; minutes >= 0; minutes--) {
            due("dryIn(0)", x.dryIn(0), minutes);
            x.waits(1);
        }
    }

    private static void dryInAt59() {
        for (int heat : new int[] {59, 60}) {
            HotSteps x = Check.houseOf("1 1 1 4 1 1 60 0", 99);
            Check.heatTo(x, heat);
            x.enter(0);
            x.sit(0, 1);
            x.waits(2);
            x.hall(0);
            x.hang(0, 0);
            due("HEAT", x.size(10), heat);
            due("dryIn(0) at " + heat, x.dryIn(0), heat == 59 ? 2 : NONE);
        }
    }

    /** From 100 with steam of 5 it becomes cooler by 3, 2 and 1 each minute, down to 59; no other state has a longer wait. */
    private static void dryInLongest() {
        HotSteps x = Check.houseOf("1 1 1 4 1 1 60 0", 99);
        x.enter(0);
        x.sit(0, 1);
        x.waits(9);
        Check.heatTo(x, 100);
        x.hall(0);
        x.hang(0, 0);
        Check.steam(x, 5);
        due("dryIn(0)", x.dryIn(0), 38);
        due("waits(1) so often", minutesUntil(x, 60, () -> x.towel(0, 0) == 0 ? 1 : 0), 38);
    }

    private static void dryInWarming() {
        HotSteps x = hanging(9);
        Check.steam(x, 14);
        // 9 minutes cooled to 3; then 14, 25, 35, 45, 54, 63: it dries for 5 minutes
        due("dryIn(0)", x.dryIn(0), NONE);
        x.waits(20);
        due("towel(0, 0)", x.towel(0, 0), 9 - 5);
    }

    private static void silenceIn() {
        test("Promise 25: 0 from the first to the last minute of SILENCE, then the minutes to the next gong", () -> {
            HotSteps x = Check.houseOf("1 1 1 1 1 1 10 3");
            int[] want = {10, 9, 8, 7, 6, 5, 4, 3, 2, 1, 0, 0, 0, 7, 6, 5, 4, 3, 2, 1, 0};
            for (int time = 0; time < want.length; time++) {
                due("silenceIn() at " + time, x.silenceIn(), want[time]);
                x.waits(1);
            }
        });
        test("Promise 25: NONE by QUIET of 0, also at the minute of a gong", () -> {
            HotSteps x = Check.houseOf("1 1 1 1 1 1 2 0");
            for (int time = 0; time < 4; time++) {
                due("silenceIn() at " + time, x.silenceIn(), NONE);
                x.waits(1);
            }
        });
        test("Promise 25: 60 minutes, the most", () -> due("silenceIn()", Check.houseOf("1 1 1 1 1 1 60 1").silenceIn(), 60));
        test("Promise 25: at a multiple of another GONG the next one is the whole GONG off", () -> {
            HotSteps x = Check.houseOf("1 1 1 1 1 1 60 1");
            x.waits(14);
            x.set(7, 7);
            due("silenceIn()", x.silenceIn(), 7);
            x.set(7, 15);
            due("silenceIn(), GONG of 15", x.silenceIn(), 1);
        });
        test("Promise 25: at TIME 9999 the gong of 10000 is told", () -> {
            HotSteps x = Check.houseOf("1 1 1 1 1 1 50 1");
            Check.timeTo(x, 9999);
            due("silenceIn()", x.silenceIn(), 1);
            x.set(7, 60);
            due("silenceIn(), GONG of 60", x.silenceIn(), 21);
        });
    }

    private static void ifValve() {
        test("Promise 26: HEAT becomes 0 and 100, and no less and no more", () -> {
            HotSteps x = Check.houseOf("1 1 1 4 1 1 2 0");
            Check.heatTo(x, 3);
            Check.steam(x, 0);
            due("ifValve(0, 0) at 3", x.ifValve(0, 0), 0);
            due("ifValve(0, 1) at 3", x.ifValve(0, 1), 1);
            Check.heatTo(x, 1);
            Check.steam(x, 0);
            due("ifValve(0, 0) at 1", x.ifValve(0, 0), 0);
            Check.heatTo(x, 99);
            Check.steam(x, 0);
            due("ifValve(3, 7) at 99", x.ifValve(3, 7), 99);
            due("ifValve(3, 8) at 99", x.ifValve(3, 8), 100);
            due("ifValve(3, 9) at 99", x.ifValve(3, 9), 100);
        });
        test("Promise 26: in place of the OPENING that is there, of the first and the last VALVE; nothing changes", () -> {
            HotSteps x = Check.houseOf("1 1 1 4 1 1 2 0");
            Check.steam(x, 36);
            due("ifValve(0, 9)", x.ifValve(0, 9), 62);
            due("ifValve(0, 0)", x.ifValve(0, 0), 53);
            due("ifValve(3, 0)", x.ifValve(3, 0), 53);
            due("opening(0)", x.opening(0), 9);
            due("heatIn(1)", x.heatIn(1), 62);
        });
    }

    // ---- promises 38 and 39

    private static void report() {
        test("Promise 38, empty: nobody anywhere, one STEP, one PEG that is free", () ->
            Check.dueText("report()", Check.report(Check.houseOf(SMALLEST)), "1: h: p:-"));
        test("Promise 38: 6 STEPS, 16 PEGS with TOWELS of one and two digits", () ->
            Check.dueText("report()", Check.report(largest()), "6: 5: 4: 3: 2: 1: h: p:0,1,2,3,4,5,6,7,8,9,10,11,12,13,14,15"));
        test("Promise 38, full: 9 on a STEP and 3 in the HALL, with names of 6 letters", EdgeAnswersTest::reportFull);
        test("Promise 38: the first and the last PEG alone are free, or are not", EdgeAnswersTest::reportPegs);
        test("Promise 38: in place of the one before, also a shorter one", EdgeAnswersTest::reportShorter);
    }

    private static void reportFull() {
        StringBuilder setup = new StringBuilder("bath " + LARGEST);
        StringBuilder nine = new StringBuilder();
        for (int guest = 0; guest < 12; guest++) {
            String name = "aaaaa" + (char) ('a' + guest);
            setup.append(";guest ").append(name).append(" 99");
            nine.append(guest == 0 || guest == 9 ? "" : ",").append(name).append(guest == 8 ? " 5: 4: 3: 2: 1: h:" : "");
        }
        HotSteps x = Check.house(setup.toString());
        Check.enter(x, 12);
        for (int guest = 0; guest < 9; guest++) {
            x.sit(guest, 6);
        }
        Check.dueText("report()", Check.report(x), "6:" + nine + " p:-,-,-,-,-,-,-,-,-,-,-,-,12,13,14,15");
    }

    private static void reportPegs() {
        HotSteps x = Check.houseOf("1 3 2 1 1 1 2 0", 5);
        Check.dueText("report()", Check.report(x), "1: h: p:0,1,-");
        x.enter(0);
        Check.dueText("report(), then", Check.report(x), "1: h:a p:-,1,-");
        x.hang(0, 2);
        Check.dueText("report(), hung", Check.report(x), "1: h:a p:-,1,0");
    }

    private static void reportShorter() {
        HotSteps x = largest();
        int length = x.report();
        Check.load(x, "bath " + SMALLEST);
        due("report()", x.report(), 9);
        due("reportByte(8)", x.reportByte(8), '-');
        for (int i = 9; i < length; i++) {
            due("reportByte(" + i + ")", x.reportByte(i), NONE);
        }
    }

    private static void reportByte() {
        test("Promise 39, empty: NONE ahead of the first report", () -> {
            for (int i : new int[] {-1, 0, 1, LEAST, MOST}) {
                due("reportByte(" + i + ")", new HotSteps().reportByte(i), NONE);
            }
        });
        test("Promise 39: the first and the last byte, and one beside each", () -> {
            HotSteps x = Check.houseOf(SMALLEST);
            due("report()", x.report(), 9);
            int[][] cases = {{-1, NONE}, {0, '1'}, {1, 58}, {2, 32}, {3, 104}, {6, 112}, {8, 45}, {9, NONE}, {LEAST, NONE}, {MOST, NONE}, {255, NONE},
                {256, NONE}};
            for (int[] one : cases) {
                due("reportByte(" + one[0] + ")", x.reportByte(one[0]), one[1]);
            }
        });
        test("Promise 39: of the latest report, changes behind it do not count", () -> {
            HotSteps x = Check.houseOf("1 1 1 1 1 1 2 0", 5);
            x.report();
            x.enter(0);
            due("reportByte(5)", x.reportByte(5), 32);
            x.report();
            due("reportByte(5), then", x.reportByte(5), 'a');
        });
    }
}
