/** The boundary cases of "Why" and "Deeds", with promises 13, 16, 17 and 27 to 37, a test each. */
public final class EdgeDeedsTest {
    private static final int NONE = HotSteps.NONE;
    private static final int LEAST = Integer.MIN_VALUE;
    private static final int MOST = Integer.MAX_VALUE;

    public static void main(String[] args) {
        whyEnter();
        whySit();
        whyHangAndTake();
        whyLeave();
        whyRange();
        highest();
        enter();
        sit();
        hall();
        hangAndTake();
        leave();
        speak();
        wash();
        valve();
        waits();
        set();
        Check.end("EdgeDeedsTest");
    }

    private static void test(String name, Runnable body) {
        Check.test(name, body);
    }

    private static void due(String call, long got, long want) {
        Check.due(call, got, want);
    }

    private static void why(HotSteps x, int guest, int deed, int reason, int cause) {
        due("why(" + guest + ", " + deed + ", 0)", x.why(guest, deed, 0), reason);
        due("why(" + guest + ", " + deed + ", 1)", x.why(guest, deed, 1), cause);
    }

    /** Guest 0 wets its towel so many minutes on STEP 1, and is in the HALL then. */
    private static void makeWet(HotSteps x, int minutes) {
        x.sit(0, 1);
        x.waits(minutes);
        x.hall(0);
    }

    /** Guest 0 is SENT out at this TIME, which the gong of this house divides. */
    private static HotSteps sentAt(int time) {
        HotSteps x = Check.houseOf("1 2 2 4 1 1 2 30", 50, 50);
        Check.timeTo(x, time);
        x.enter(0);
        x.speak(0);
        x.speak(0);
        due("speak(0), third", x.speak(0), 3);
        return x;
    }

    // ---- promise 16

    private static void whyEnter() {
        test("Promise 16, ENTER: 1 in the HALL and on a STEP, ahead of 3 and 4", EdgeDeedsTest::whyInside);
        test("Promise 16, ENTER: 2 in the first minute of the day, cause 700", () -> why(sentAt(600), 0, 0, 2, 700));
        test("Promise 16, ENTER: 2 in the last minute of the day, cause 101; the next day 0", EdgeDeedsTest::whyLastMinuteOfDay);
        test("Promise 16, ENTER: 2 is told ahead of 3, and of 4", EdgeDeedsTest::whySentFirst);
        test("Promise 16, ENTER: 3 with 1 LOCKER, cause 201, and with 12, cause 212", EdgeDeedsTest::whyNoLocker);
        test("Promise 16, ENTER: 3 is told ahead of 4", EdgeDeedsTest::whyLockerFirst);
        test("Promise 16, ENTER: 4 by a WET of 3, 0 by one of 2", EdgeDeedsTest::whyTooWet);
        test("Promise 16, ENTER: 4 without a TOWEL at all", () -> why(Check.houseOf("1 1 0 1 1 1 2 0", 5), 0, 0, 4, 0));
        test("Promise 16, ENTER: 4 with all in the BASKET, though they are dry", EdgeDeedsTest::whyAllInBasket);
    }

    private static void whyInside() {
        HotSteps x = Check.houseOf("1 1 1 1 1 1 2 0", 5);
        why(x, 0, 0, 0, 0);
        x.enter(0);
        why(x, 0, 0, 1, 0);
        x.sit(0, 1);
        why(x, 0, 0, 1, 0);
    }

    private static void whyLastMinuteOfDay() {
        HotSteps x = sentAt(2);
        why(x, 0, 0, 2, 698);
        Check.timeTo(x, 599);
        why(x, 0, 0, 2, 101);
        x.waits(1);
        why(x, 0, 0, 0, 0);
    }

    private static void whySentFirst() {
        HotSteps x = sentAt(2);
        x.enter(1);
        why(x, 0, 0, 2, 698);
        x.leave(1);
        due("driest()", x.driest(), NONE);
        why(x, 0, 0, 2, 698);
    }

    private static void whyNoLocker() {
        HotSteps x = Check.houseOf("1 2 2 1 1 1 2 0", 5, 5);
        x.enter(0);
        why(x, 1, 0, 3, 201);
        HotSteps y = Check.houseOf("12 16 16 1 1 1 2 0", 5, 5, 5, 5, 5, 5, 5, 5, 5, 5, 5, 5, 5);
        Check.enter(y, 11);
        why(y, 12, 0, 0, 0);
        y.enter(11);
        why(y, 12, 0, 3, 212);
    }

    private static void whyLockerFirst() {
        HotSteps x = Check.houseOf("1 1 1 1 1 1 2 0", 5, 5);
        x.enter(0);
        due("driest()", x.driest(), NONE);
        why(x, 1, 0, 3, 201);
    }

    private static void whyTooWet() {
        HotSteps x = Check.houseOf("2 1 1 1 1 1 2 0", 5, 5);
        x.enter(0);
        makeWet(x, 3);
        x.hang(0, 0);
        due("towel(0, 0)", x.towel(0, 0), 3);
        due("driest() at 3", x.driest(), NONE);
        why(x, 1, 0, 4, 0);
        due("enter(1) at 3", x.enter(1), -2);
        x.waits(1);
        due("towel(0, 0), dried", x.towel(0, 0), 2);
        due("driest() at 2", x.driest(), 0);
        why(x, 1, 0, 0, 0);
        due("enter(1) at 2", x.enter(1), 1);
    }

    private static void whyAllInBasket() {
        HotSteps x = Check.houseOf("1 1 1 1 1 1 2 0", 5);
        x.enter(0);
        x.leave(0);
        why(x, 0, 0, 4, 0);
        x.wash();
        why(x, 0, 0, 0, 0);
    }

    private static void whySit() {
        test("Promise 16, SIT: 5 of one who is OUT, ahead of 6 and 7", EdgeDeedsTest::whySitOut);
        test("Promise 16, SIT: 6 is told ahead of 7 and 8", EdgeDeedsTest::whySitTowelFirst);
        test("Promise 16, SIT: 7 by one year, cause 301, and by 25, cause 325", EdgeDeedsTest::whyTooYoung);
        test("Promise 16, SIT: 7 is told ahead of 8", EdgeDeedsTest::whyAgeFirst);
        test("Promise 16, SIT: 8 with ROOM for 1 and for 9, and 0 with one fewer there", EdgeDeedsTest::whyNoRoom);
        test("Promise 16, SIT: 8 has the lowest number there as its cause, 400 and 415", EdgeDeedsTest::whyLowestThere);
        test("Promise 16, SIT: a GUEST does not count itself there", EdgeDeedsTest::whyNotItself);
    }

    private static void whySitOut() {
        HotSteps x = Check.houseOf("1 1 1 1 6 1 2 0", 0);
        why(x, 0, 11, 5, 0);
        why(x, 0, 16, 5, 0);
    }

    private static void whySitTowelFirst() {
        HotSteps x = Check.houseOf("2 3 3 1 2 1 2 0", 4, 5);
        Check.enter(x, 2);
        x.sit(1, 2);
        x.hang(0, 0);
        why(x, 0, 12, 6, 0);
        x.sit(1, 1);
        why(x, 0, 11, 6, 0);
    }

    private static void whyTooYoung() {
        HotSteps x = Check.houseOf("3 3 3 1 6 1 2 0", 24, 0, 25);
        Check.enter(x, 3);
        why(x, 0, 16, 7, 301);
        why(x, 0, 15, 0, 0);
        why(x, 1, 16, 7, 325);
        why(x, 1, 12, 7, 305);
        why(x, 1, 11, 0, 0);
        why(x, 2, 16, 0, 0);
    }

    private static void whyAgeFirst() {
        HotSteps x = Check.houseOf("2 2 2 1 2 1 2 0", 4, 5);
        Check.enter(x, 2);
        x.sit(1, 2);
        why(x, 0, 12, 7, 301);
    }

    private static void whyNoRoom() {
        for (int room : new int[] {1, 9}) {
            HotSteps x = Check.houseOf("12 16 16 1 1 " + room + " 2 0", 5, 5, 5, 5, 5, 5, 5, 5, 5, 5);
            Check.enter(x, 10);
            for (int guest = 0; guest < room; guest++) {
                why(x, 9, 11, 0, 0);
                x.sit(guest, 1);
            }
            why(x, 9, 11, 8, 400);
        }
    }

    private static void whyLowestThere() {
        int[] ages = new int[16];
        HotSteps x = Check.houseOf("12 16 16 1 1 2 2 0", ages);
        x.enter(15);
        x.enter(14);
        x.enter(0);
        x.enter(7);
        x.sit(15, 1);
        x.sit(14, 1);
        why(x, 0, 11, 8, 414);
        x.hall(14);
        x.set(6, 1);
        why(x, 0, 11, 8, 415);
        x.set(6, 2);
        x.sit(0, 1);
        why(x, 7, 11, 8, 400);
    }

    private static void whyNotItself() {
        HotSteps x = Check.houseOf("3 3 3 1 1 1 2 0", 5, 5, 5);
        Check.enter(x, 3);
        x.sit(0, 1);
        why(x, 0, 11, 0, 0);
        due("sit(0, 1)", x.sit(0, 1), 36);
        why(x, 1, 11, 8, 400);
        x.set(6, 2);
        x.sit(1, 1);
        why(x, 0, 11, 0, 0);
        x.set(6, 1);
        why(x, 0, 11, 8, 401);
        why(x, 1, 11, 8, 400);
        why(x, 2, 11, 8, 400);
        due("sit(0, 1), the other one fills it", x.sit(0, 1), -2);
    }

    private static void whyHangAndTake() {
        test("Promise 16, HANG: 5 of one who is OUT, ahead of 6 and 10", EdgeDeedsTest::whyHangOut);
        test("Promise 16, HANG: 9 on a STEP, cause 501 and 506, ahead of 10", EdgeDeedsTest::whyHangOnStep);
        test("Promise 16, HANG: 6 without a TOWEL, ahead of 10", EdgeDeedsTest::whyHangWithout);
        test("Promise 16, HANG: 10 on a PEG that is not free, cause 600 and 615", EdgeDeedsTest::whyPegNotFree);
        test("Promise 16, TAKE: 5 of one who is OUT, ahead of 12", EdgeDeedsTest::whyTakeOut);
        test("Promise 16, TAKE: 9 on a STEP, cause 501 and 506, ahead of 11", EdgeDeedsTest::whyTakeOnStep);
        test("Promise 16, TAKE: 11 with a TOWEL, ahead of 12", EdgeDeedsTest::whyTakeWith);
        test("Promise 16, TAKE: 12 from a PEG that is free, the first and the last", EdgeDeedsTest::whyPegFree);
    }

    private static void whyHangOut() {
        HotSteps x = Check.houseOf("1 2 1 1 1 1 2 0", 5);
        why(x, 0, 20, 5, 0);
        why(x, 0, 21, 5, 0);
    }

    private static void whyHangOnStep() {
        HotSteps x = Check.houseOf("1 2 2 1 6 1 2 0", 25);
        x.enter(0);
        x.sit(0, 1);
        why(x, 0, 20, 9, 501);
        why(x, 0, 21, 9, 501);
        x.sit(0, 6);
        why(x, 0, 20, 9, 506);
    }

    private static void whyHangWithout() {
        HotSteps x = Check.houseOf("1 2 2 1 1 1 2 0", 5);
        x.enter(0);
        x.hang(0, 0);
        why(x, 0, 20, 6, 0);
        why(x, 0, 21, 6, 0);
    }

    private static void whyPegNotFree() {
        HotSteps x = Check.houseOf("2 16 16 1 1 1 2 0", 5, 5);
        x.enter(0);
        why(x, 0, 20, 0, 0);
        why(x, 0, 35, 10, 615);
        x.hang(0, 0);
        x.enter(1);
        x.take(0, 15);
        why(x, 0, 20, 0, 0);
        why(x, 0, 35, 0, 0);
        x.hang(1, 15);
        why(x, 0, 35, 10, 600);
    }

    private static void whyTakeOut() {
        HotSteps x = Check.houseOf("1 2 1 1 1 1 2 0", 5);
        why(x, 0, 40, 5, 0);
        why(x, 0, 41, 5, 0);
    }

    private static void whyTakeOnStep() {
        HotSteps x = Check.houseOf("1 2 2 1 6 1 2 0", 25);
        x.enter(0);
        x.sit(0, 1);
        why(x, 0, 41, 9, 501);
        x.sit(0, 6);
        why(x, 0, 41, 9, 506);
    }

    private static void whyTakeWith() {
        HotSteps x = Check.houseOf("1 2 2 1 1 1 2 0", 5);
        x.enter(0);
        why(x, 0, 40, 11, 0);
        why(x, 0, 41, 11, 0);
    }

    private static void whyPegFree() {
        HotSteps x = Check.houseOf("1 16 15 1 1 1 2 0", 5);
        x.enter(0);
        x.hang(0, 0);
        why(x, 0, 40, 0, 0);
        why(x, 0, 55, 12, 0);
        x.take(0, 0);
        x.hang(0, 15);
        why(x, 0, 40, 12, 0);
        why(x, 0, 55, 0, 0);
    }

    private static void whyLeave() {
        test("Promise 16, LEAVE: 5 of one who is OUT", () -> why(Check.houseOf("1 1 1 1 1 1 2 0", 5), 0, 1, 5, 0));
        test("Promise 16, LEAVE: 9 on a STEP, cause 501 and 506; 0 in the HALL, also without a TOWEL", EdgeDeedsTest::whyLeaveOnStep);
    }

    private static void whyLeaveOnStep() {
        HotSteps x = Check.houseOf("1 2 1 1 6 1 2 0", 25);
        x.enter(0);
        why(x, 0, 1, 0, 0);
        x.sit(0, 1);
        why(x, 0, 1, 9, 501);
        x.sit(0, 6);
        why(x, 0, 1, 9, 506);
        x.hall(0);
        x.hang(0, 1);
        why(x, 0, 1, 0, 0);
    }

    private static void whyRange() {
        test("Promise 16, range: a GUEST below 0, and as many as there are", () -> {
            HotSteps x = Check.houseOf("1 1 1 1 1 1 2 0", 5, 5);
            for (int bad : new int[] {-1, 2, LEAST, MOST}) {
                Check.isOutOfRange("why(" + bad + ", 0, 0)", () -> x.why(bad, 0, 0));
                Check.isOutOfRange("why(" + bad + ", 0, 1)", () -> x.why(bad, 0, 1));
            }
        });
        test("Promise 16, range: a depth below 0 and above 1", () -> {
            HotSteps x = Check.houseOf("1 1 1 1 1 1 2 0", 5);
            for (int bad : new int[] {-1, 2, LEAST, MOST}) {
                Check.isOutOfRange("why(0, 0, " + bad + ")", () -> x.why(0, 0, bad));
            }
        });
        test("Promise 16, range: each deed from -3 to 70, with one STEP and PEG, and with the most", () -> {
            deeds("1 1 1 1 1 1 2 0", 1, 1);
            deeds("1 16 1 1 6 1 2 0", 6, 16);
            deeds("1 7 1 1 3 1 2 0", 3, 7);
        });
        test("Promise 16, range: deeds that are far out", () -> {
            HotSteps x = Check.houseOf("1 1 1 1 1 1 2 0", 5);
            for (int bad : new int[] {LEAST, LEAST + 1, LEAST + 11, LEAST + 20, LEAST + 40, MOST, MOST - 10}) {
                Check.isOutOfRange("why(0, " + bad + ", 0)", () -> x.why(0, bad, 0));
            }
        });
    }

    private static void deeds(String numbers, int steps, int pegs) {
        HotSteps x = Check.houseOf(numbers, 5);
        for (int deed = -3; deed <= 70; deed++) {
            boolean there = deed == 0 || deed == 1 || deed > 10 && deed <= 10 + steps
                || deed >= 20 && deed < 20 + pegs || deed >= 40 && deed < 40 + pegs;
            int told = deed;
            if (there) {
                due("why(0, " + deed + ", 0)", x.why(0, deed, 0), deed == 0 ? 0 : 5);
            } else {
                Check.isOutOfRange("why(0, " + deed + ", 0)", () -> x.why(0, told, 0));
            }
        }
    }

    // ---- promise 17

    private static void highest() {
        test("Promise 17: 0 of one who is OUT, and of one without a TOWEL", EdgeDeedsTest::highestOfNone);
        test("Promise 17: 0 when all STEPS are full", EdgeDeedsTest::highestWhenFull);
        test("Promise 17: the highest STEP itself, by AGE 24 and 25", EdgeDeedsTest::highestByAge);
        test("Promise 17: its own STEP, though that is full", EdgeDeedsTest::highestOwn);
        test("Promise 17, range: a GUEST below 0, and as many as there are", () -> {
            HotSteps x = Check.houseOf("1 1 1 1 1 1 2 0", 5, 5);
            for (int bad : new int[] {-1, 2, LEAST, MOST}) {
                Check.isOutOfRange("highest(" + bad + ")", () -> x.highest(bad));
            }
        });
    }

    private static void highestOfNone() {
        HotSteps x = Check.houseOf("1 2 2 1 1 1 2 0", 5);
        due("highest(0), OUT", x.highest(0), 0);
        x.enter(0);
        due("highest(0), with one", x.highest(0), 1);
        x.hang(0, 0);
        due("highest(0), without", x.highest(0), 0);
    }

    private static void highestWhenFull() {
        HotSteps x = Check.houseOf("3 3 3 1 2 1 2 0", 5, 5, 5);
        Check.enter(x, 3);
        x.sit(0, 2);
        due("highest(2)", x.highest(2), 1);
        x.sit(1, 1);
        due("highest(2), all full", x.highest(2), 0);
    }

    private static void highestByAge() {
        HotSteps x = Check.houseOf("3 3 3 1 6 1 2 0", 24, 25, 0);
        Check.enter(x, 3);
        due("highest(0)", x.highest(0), 5);
        due("highest(1)", x.highest(1), 6);
        due("highest(2)", x.highest(2), 1);
    }

    private static void highestOwn() {
        HotSteps x = Check.houseOf("2 2 2 1 3 1 2 0", 99, 99);
        Check.enter(x, 2);
        x.sit(0, 3);
        due("highest(0)", x.highest(0), 3);
        due("highest(1)", x.highest(1), 2);
    }

    // ---- promises 13 and 27

    private static void enter() {
        test("Promise 27: the lowest free LOCKER, when an inner one, the first and the last are free", EdgeDeedsTest::enterLowestLocker);
        test("Promise 27 and 13: the TOWEL with the least WET, not the lowest PEG", EdgeDeedsTest::enterLeastWet);
        test("Promise 27 and 13: of several as wet, that on the lowest PEG, not the lowest number", EdgeDeedsTest::enterLowestPeg);
        test("Promise 27 and 13: the TOWEL on the last PEG, when it is the only one", EdgeDeedsTest::enterLastPeg);
        test("Promise 13: NONE without a TOWEL, though PEGS are there", () -> due("driest()", Check.houseOf("1 16 0 1 1 1 2 0").driest(), NONE));
        test("Promise 27, refused: 1 to 4 of Why each answer -2", EdgeDeedsTest::enterRefused);
        test("Promise 27, range: a GUEST below 0, and as many as there are", () -> ofNoGuest("enter"));
    }

    private static void enterLowestLocker() {
        HotSteps x = Check.houseOf("3 6 6 1 1 1 2 0", 5, 5, 5, 5, 5);
        Check.enter(x, 3);
        x.leave(1);
        due("enter(3)", x.enter(3), 1);
        x.leave(2);
        x.leave(0);
        due("enter(4)", x.enter(4), 0);
        due("enter(1)", x.enter(1), 2);
    }

    private static void enterLeastWet() {
        HotSteps x = Check.houseOf("3 3 3 1 1 1 60 0", 5, 5, 5);
        x.enter(0);
        makeWet(x, 2);
        x.hang(0, 0);
        due("towel(0, 0)", x.towel(0, 0), 2);
        due("driest()", x.driest(), 1);
        x.enter(1);
        due("guest(1, 3)", x.guest(1, 3), 1);
        due("driest(), then", x.driest(), 2);
        x.enter(2);
        due("guest(2, 3)", x.guest(2, 3), 2);
        due("driest(), the wet one", x.driest(), 0);
    }

    private static void enterLowestPeg() {
        HotSteps x = Check.houseOf("3 3 2 1 1 1 60 0", 5, 5, 5);
        x.enter(0);
        x.hang(0, 2);
        due("driest(), 1 is on PEG 1", x.driest(), 1);
        x.enter(1);
        due("guest(1, 3)", x.guest(1, 3), 1);
        x.hang(1, 0);
        due("driest(), 1 is on PEG 0", x.driest(), 1);
        x.take(1, 0);
        x.enter(2);
        due("guest(2, 3)", x.guest(2, 3), 0);
    }

    private static void enterLastPeg() {
        HotSteps x = Check.houseOf("2 16 1 1 1 1 60 0", 5, 5);
        x.enter(0);
        x.hang(0, 15);
        due("driest()", x.driest(), 0);
        due("enter(1)", x.enter(1), 1);
        due("guest(1, 3)", x.guest(1, 3), 0);
    }

    private static void enterRefused() {
        HotSteps in = Check.houseOf("2 2 2 1 1 1 2 0", 5);
        in.enter(0);
        Check.refused(in, "enter of one who is in", () -> in.enter(0), -2);
        HotSteps sent = sentAt(2);
        Check.refused(sent, "enter of one who was SENT", () -> sent.enter(0), -2);
        HotSteps keys = Check.houseOf("1 2 2 1 1 1 2 0", 5, 5);
        keys.enter(0);
        Check.refused(keys, "enter without a LOCKER", () -> keys.enter(1), -2);
        HotSteps towels = Check.houseOf("2 1 1 1 1 1 2 0", 5, 5);
        towels.enter(0);
        Check.refused(towels, "enter without a TOWEL", () -> towels.enter(1), -2);
    }

    /** A deed of one who is not there: below 0, as many as there are, and far out. */
    private static void ofNoGuest(String deed) {
        for (int bad : new int[] {-1, 2, LEAST, MOST}) {
            HotSteps x = Check.houseOf("2 2 2 1 1 1 2 0", 5, 5);
            Check.enter(x, 1);
            Check.refuses(x, deed + " of GUEST " + bad, () -> deedOf(x, deed, bad, 1));
        }
    }

    private static int deedOf(HotSteps x, String deed, int guest, int number) {
        switch (deed) {
            case "enter": return x.enter(guest);
            case "sit": return x.sit(guest, number);
            case "hall": return x.hall(guest);
            case "hang": return x.hang(guest, number);
            case "take": return x.take(guest, number);
            case "leave": return x.leave(guest);
            default: return x.speak(guest);
        }
    }

    // ---- promises 28 to 31

    private static void sit() {
        test("Promise 28, refused: 5 to 8 of Why each answer -2", EdgeDeedsTest::sitRefused);
        test("Promise 28: a GUEST sits again where it is, though the STEP is full", EdgeDeedsTest::sitAgain);
        test("Promise 28: from one STEP to another, past the HALL", EdgeDeedsTest::sitElsewhere);
        test("Promise 28, range: a GUEST below 0, and as many as there are", () -> ofNoGuest("sit"));
        test("Promise 28, range: STEP 0, and one above the STEPS, also for one who is OUT", () -> {
            for (int bad : new int[] {0, -1, 3, LEAST, MOST}) {
                HotSteps x = Check.houseOf("2 2 2 1 2 1 2 0", 99, 99);
                x.enter(0);
                Check.refuses(x, "sit(0, " + bad + ")", () -> x.sit(0, bad));
                Check.isOutOfRange("sit(1, " + bad + ")", () -> x.sit(1, bad));
            }
        });
    }

    private static void sitRefused() {
        HotSteps out = Check.houseOf("1 1 1 1 1 1 2 0", 5);
        Check.refused(out, "sit of one who is OUT", () -> out.sit(0, 1), -2);
        HotSteps without = Check.houseOf("1 1 1 1 1 1 2 0", 5);
        without.enter(0);
        without.hang(0, 0);
        Check.refused(without, "sit without a TOWEL", () -> without.sit(0, 1), -2);
        HotSteps young = Check.houseOf("1 1 1 1 2 1 2 0", 4);
        young.enter(0);
        Check.refused(young, "sit of one who is too young", () -> young.sit(0, 2), -2);
        HotSteps full = Check.houseOf("2 2 2 1 2 1 2 0", 5, 5);
        Check.enter(full, 2);
        full.sit(0, 2);
        Check.refused(full, "sit without ROOM", () -> full.sit(1, 2), -2);
    }

    private static void sitAgain() {
        HotSteps x = Check.houseOf("1 1 1 1 1 1 2 0", 5);
        x.enter(0);
        due("sit(0, 1)", x.sit(0, 1), 36);
        due("sit(0, 1), again", x.sit(0, 1), 36);
        due("size(16)", x.size(16), 3);
        due("step(1, 0)", x.step(1, 0), 1);
    }

    private static void sitElsewhere() {
        HotSteps x = Check.houseOf("1 1 1 1 6 1 2 0", 99);
        x.enter(0);
        due("sit(0, 6)", x.sit(0, 6), 66);
        due("sit(0, 1)", x.sit(0, 1), 36);
        due("step(6, 0)", x.step(6, 0), 0);
        due("step(1, 0)", x.step(1, 0), 1);
    }

    private static void hall() {
        test("Promise 29, refused: in the HALL and OUT, -3", EdgeDeedsTest::hallRefused);
        test("Promise 29: from the lowest and from the highest STEP", EdgeDeedsTest::hallFromSteps);
        test("Promise 29, range: a GUEST below 0, and as many as there are", () -> ofNoGuest("hall"));
    }

    private static void hallRefused() {
        HotSteps x = Check.houseOf("1 1 1 1 1 1 2 0", 5);
        Check.refused(x, "hall of one who is OUT", () -> x.hall(0), -3);
        x.enter(0);
        Check.refused(x, "hall of one who is there", () -> x.hall(0), -3);
    }

    private static void hallFromSteps() {
        HotSteps x = Check.houseOf("1 1 1 1 6 1 2 0", 99);
        x.enter(0);
        x.sit(0, 1);
        due("hall(0) from 1", x.hall(0), 1);
        x.sit(0, 6);
        due("hall(0) from 6", x.hall(0), 6);
        due("guest(0, 1)", x.guest(0, 1), 0);
    }

    private static void hangAndTake() {
        test("Promise 30, refused: 5, 9, 6 and 10 of Why each answer -2", EdgeDeedsTest::hangRefused);
        test("Promise 30: on the first and on the last PEG, the answer is the TOWEL", EdgeDeedsTest::hangFirstAndLast);
        test("Promise 30, range: a GUEST below 0, and as many as there are", () -> ofNoGuest("hang"));
        test("Promise 30, range: a PEG below 0, and as many as there are, also for one who is OUT", () -> ofNoPeg("hang"));
        test("Promise 31, refused: 5, 9, 11 and 12 of Why each answer -2", EdgeDeedsTest::takeRefused);
        test("Promise 31: from the first and from the last PEG, the answer is the TOWEL", EdgeDeedsTest::takeFirstAndLast);
        test("Promise 31: a TOWEL with a WET of 9 too, which one who ENTERS does not get", EdgeDeedsTest::takeWet);
        test("Promise 31, range: a GUEST below 0, and as many as there are", () -> ofNoGuest("take"));
        test("Promise 31, range: a PEG below 0, and as many as there are, also for one who is OUT", () -> ofNoPeg("take"));
    }

    private static void ofNoPeg(String deed) {
        for (int bad : new int[] {-1, 2, LEAST, MOST}) {
            HotSteps x = Check.houseOf("2 2 2 1 1 1 2 0", 5, 5);
            x.enter(0);
            Check.refuses(x, deed + " by PEG " + bad, () -> deedOf(x, deed, 0, bad));
            Check.isOutOfRange(deed + " by PEG " + bad + " of one who is OUT", () -> deedOf(x, deed, 1, bad));
        }
    }

    private static void hangRefused() {
        HotSteps out = Check.houseOf("1 2 1 1 1 1 2 0", 5);
        Check.refused(out, "hang of one who is OUT", () -> out.hang(0, 1), -2);
        HotSteps step = Check.houseOf("1 2 1 1 1 1 2 0", 5);
        step.enter(0);
        step.sit(0, 1);
        Check.refused(step, "hang of one on a STEP", () -> step.hang(0, 1), -2);
        HotSteps without = Check.houseOf("1 2 1 1 1 1 2 0", 5);
        without.enter(0);
        without.hang(0, 0);
        Check.refused(without, "hang without a TOWEL", () -> without.hang(0, 1), -2);
        HotSteps taken = Check.houseOf("1 2 2 1 1 1 2 0", 5);
        taken.enter(0);
        Check.refused(taken, "hang on a PEG that is not free", () -> taken.hang(0, 1), -2);
    }

    private static void hangFirstAndLast() {
        HotSteps x = Check.houseOf("3 16 3 1 1 1 2 0", 5, 5, 5);
        Check.enter(x, 3);
        due("hang(2, 15)", x.hang(2, 15), 2);
        due("peg(15)", x.peg(15), 2);
        due("towel(2, 1)", x.towel(2, 1), 15);
        due("hang(1, 0)", x.hang(1, 0), 1);
        due("peg(0)", x.peg(0), 1);
        due("hang(0, 1)", x.hang(0, 1), 0);
        due("guest(0, 3)", x.guest(0, 3), NONE);
    }

    private static void takeRefused() {
        HotSteps out = Check.houseOf("1 2 2 1 1 1 2 0", 5);
        Check.refused(out, "take of one who is OUT", () -> out.take(0, 1), -2);
        HotSteps step = Check.houseOf("1 2 2 1 1 1 2 0", 5);
        step.enter(0);
        step.sit(0, 1);
        Check.refused(step, "take of one on a STEP", () -> step.take(0, 1), -2);
        HotSteps with = Check.houseOf("1 2 2 1 1 1 2 0", 5);
        with.enter(0);
        Check.refused(with, "take with a TOWEL", () -> with.take(0, 1), -2);
        HotSteps free = Check.houseOf("1 3 2 1 1 1 2 0", 5);
        free.enter(0);
        free.hang(0, 0);
        Check.refused(free, "take from a PEG that is free", () -> free.take(0, 2), -2);
    }

    private static void takeFirstAndLast() {
        HotSteps x = Check.houseOf("1 16 16 1 1 1 2 0", 5);
        x.enter(0);
        x.hang(0, 0);
        due("take(0, 15)", x.take(0, 15), 15);
        due("peg(15)", x.peg(15), NONE);
        due("towel(15, 2)", x.towel(15, 2), 0);
        x.hang(0, 15);
        due("take(0, 0)", x.take(0, 0), 0);
        due("guest(0, 3)", x.guest(0, 3), 0);
    }

    private static void takeWet() {
        HotSteps x = Check.houseOf("2 1 1 1 1 1 2 0", 5, 5);
        x.enter(0);
        makeWet(x, 9);
        x.hang(0, 0);
        due("enter(1)", x.enter(1), -2);
        due("take(0, 0)", x.take(0, 0), 0);
        due("towel(0, 0)", x.towel(0, 0), 9);
    }

    // ---- promises 32 to 34

    private static void leave() {
        test("Promise 32, refused: OUT and on a STEP, -2", EdgeDeedsTest::leaveRefused);
        test("Promise 32: without a TOWEL nothing comes into the BASKET", EdgeDeedsTest::leaveWithout);
        test("Promise 32: the answer is the LOCKER, the first and the last", EdgeDeedsTest::leaveLockers);
        test("Promise 32, range: a GUEST below 0, and as many as there are", () -> ofNoGuest("leave"));
    }

    private static void leaveRefused() {
        HotSteps x = Check.houseOf("1 1 1 1 1 1 2 0", 5);
        Check.refused(x, "leave of one who is OUT", () -> x.leave(0), -2);
        x.enter(0);
        x.sit(0, 1);
        Check.refused(x, "leave of one on a STEP", () -> x.leave(0), -2);
    }

    private static void leaveWithout() {
        HotSteps x = Check.houseOf("1 1 1 1 1 1 2 0", 5);
        x.enter(0);
        x.hang(0, 0);
        due("leave(0)", x.leave(0), 0);
        due("size(13)", x.size(13), 0);
        due("peg(0)", x.peg(0), 0);
        due("gap()", x.gap(), 0);
    }

    private static void leaveLockers() {
        HotSteps x = Check.houseOf("12 16 16 1 1 1 2 0", 5, 5, 5, 5, 5, 5, 5, 5, 5, 5, 5, 5);
        Check.enter(x, 12);
        due("leave(11)", x.leave(11), 11);
        due("locker(11)", x.locker(11), NONE);
        due("leave(0)", x.leave(0), 0);
        due("locker(0)", x.locker(0), NONE);
        due("towel(11, 3)", x.towel(11, 3), 1);
    }

    private static void speak() {
        test("Promise 33, refused: OUT, -4, in SILENCE and without it", EdgeDeedsTest::speakOut);
        test("Promise 33: in the first and in the last minute of SILENCE, not behind it", EdgeDeedsTest::speakAtEdges);
        test("Promise 33: two WARNINGS are not enough, the third SENDS out, and WARNINGS are 0", EdgeDeedsTest::speakThreeTimes);
        test("Promise 33: from the HALL, from the highest STEP, and without a TOWEL", EdgeDeedsTest::sentFromEverywhere);
        test("Promise 33: it cannot ENTER up to the last minute of the day, and can in the first of the next", EdgeDeedsTest::sentForTheDay);
        test("Promise 33: DAY is TIME divided by 600, rounded down, at 598, 600, 1198 and 1200", EdgeDeedsTest::daysOfSending);
        test("Promise 33: sent at the last minute, it can ENTER one minute later", EdgeDeedsTest::sentAtLastMinute);
        test("Promise 33: on a later day WARNINGS begin at 0 again", EdgeDeedsTest::sentOnTwoDays);
        test("Promise 33, range: a GUEST below 0, and as many as there are", () -> ofNoGuest("speak"));
    }

    private static void speakOut() {
        HotSteps x = Check.houseOf("1 1 1 1 1 1 2 30", 5);
        Check.refused(x, "speak without SILENCE", () -> x.speak(0), -4);
        x.waits(2);
        Check.refused(x, "speak in SILENCE", () -> x.speak(0), -4);
    }

    private static void speakAtEdges() {
        HotSteps x = Check.houseOf("1 1 1 1 1 1 20 5", 5);
        x.enter(0);
        x.waits(19);
        due("speak(0) at 19", x.speak(0), 0);
        x.waits(1);
        due("speak(0) at 20", x.speak(0), 1);
        x.waits(4);
        due("speak(0) at 24", x.speak(0), 2);
        x.waits(1);
        due("speak(0) at 25", x.speak(0), 2);
        due("account(3)", x.account(3), 2);
    }

    private static void speakThreeTimes() {
        HotSteps x = Check.houseOf("1 1 1 1 1 1 2 30", 5);
        x.enter(0);
        x.waits(2);
        due("speak(0), first", x.speak(0), 1);
        due("speak(0), second", x.speak(0), 2);
        due("guest(0, 1)", x.guest(0, 1), 0);
        due("guest(0, 8)", x.guest(0, 8), NONE);
        due("speak(0), third", x.speak(0), 3);
        due("guest(0, 1), then", x.guest(0, 1), NONE);
        due("guest(0, 5), then", x.guest(0, 5), 0);
        due("guest(0, 8), then", x.guest(0, 8), 0);
        due("account(3)", x.account(3), 3);
        due("speak(0), fourth", x.speak(0), -4);
    }

    private static void sentFromEverywhere() {
        HotSteps x = Check.houseOf("3 4 3 1 6 1 2 30", 99, 99, 99);
        Check.enter(x, 3);
        x.sit(1, 6);
        x.hang(2, 3);
        x.waits(2);
        for (int guest = 0; guest < 3; guest++) {
            x.speak(guest);
            x.speak(guest);
            due("speak(" + guest + ")", x.speak(guest), 3);
            due("guest(" + guest + ", 1)", x.guest(guest, 1), NONE);
            due("guest(" + guest + ", 3)", x.guest(guest, 3), NONE);
            due("locker(" + guest + ")", x.locker(guest), NONE);
        }
        due("size(12)", x.size(12), 0);
        due("size(13)", x.size(13), 2);
        due("peg(3)", x.peg(3), 2);
        due("account(1)", x.account(1), 3);
        due("account(2)", x.account(2), 3);
    }

    private static void sentForTheDay() {
        HotSteps x = sentAt(2);
        x.wash();
        Check.timeTo(x, 599);
        due("enter(0) at 599", x.enter(0), -2);
        x.waits(1);
        due("enter(0) at 600", x.enter(0), 0);
        due("guest(0, 8)", x.guest(0, 8), 0);
    }

    private static void daysOfSending() {
        int[][] cases = {{598, 0}, {600, 1}, {1198, 1}, {1200, 2}, {9998, 16}};
        for (int[] one : cases) {
            due("guest(0, 8), SENT at " + one[0], sentAt(one[0]).guest(0, 8), one[1]);
        }
    }

    private static void sentAtLastMinute() {
        HotSteps x = Check.houseOf("1 2 2 1 1 1 2 30", 5);
        Check.timeTo(x, 599);
        x.enter(0);
        Check.play(x, "speak a;speak a;speak a;");
        due("guest(0, 8)", x.guest(0, 8), 0);
        due("enter(0) at 599", x.enter(0), -2);
        x.waits(1);
        due("enter(0) at 600", x.enter(0), 0);
    }

    private static void sentOnTwoDays() {
        HotSteps x = sentAt(2);
        x.wash();
        Check.timeTo(x, 600);
        x.enter(0);
        due("speak(0), first", x.speak(0), 1);
        due("speak(0), second", x.speak(0), 2);
        due("speak(0), third", x.speak(0), 3);
        due("guest(0, 8)", x.guest(0, 8), 1);
        due("enter(0)", x.enter(0), -2);
    }

    private static void wash() {
        test("Promise 34: of an empty BASKET none, and it is recorded", EdgeDeedsTest::washNothing);
        test("Promise 34: without any TOWEL in the house", () -> due("wash()", Check.houseOf("1 1 0 1 1 1 2 0").wash(), 0));
        test("Promise 34: all 12 that can be, on 16 full PEGS; each hangs on the lowest free one", EdgeDeedsTest::washFull);
        test("Promise 34: by their numbers, not as they came into the BASKET", EdgeDeedsTest::washByNumbers);
        test("Promise 34: WET of 9 becomes 0, that of others stays", EdgeDeedsTest::washDries);
        test("Promise 34: as many TOWELS as PEGS, there is one for each", EdgeDeedsTest::washOnePeg);
    }

    private static void washNothing() {
        HotSteps x = Check.houseOf("1 2 1 1 1 1 2 0", 5);
        due("wash()", x.wash(), 0);
        due("size(16)", x.size(16), 1);
        due("account(5)", x.account(5), 0);
        due("peg(0)", x.peg(0), 0);
        due("peg(1)", x.peg(1), NONE);
    }

    private static void washFull() {
        HotSteps x = Check.houseOf("12 16 16 1 1 1 2 0", 5, 5, 5, 5, 5, 5, 5, 5, 5, 5, 5, 5);
        Check.enter(x, 12);
        for (int guest = 11; guest >= 0; guest--) {
            x.leave(guest);
        }
        due("size(13)", x.size(13), 12);
        due("wash()", x.wash(), 12);
        due("size(13), then", x.size(13), 0);
        due("account(5)", x.account(5), 12);
        for (int peg = 0; peg < 16; peg++) {
            due("peg(" + peg + ")", x.peg(peg), peg);
        }
    }

    private static void washByNumbers() {
        HotSteps x = Check.houseOf("3 6 3 1 1 1 2 0", 5, 5, 5);
        Check.enter(x, 3);
        x.hang(1, 1);
        x.leave(2);
        x.leave(0);
        due("wash()", x.wash(), 2);
        due("towel(0, 1)", x.towel(0, 1), 0);
        due("towel(2, 1)", x.towel(2, 1), 2);
        due("towel(1, 1)", x.towel(1, 1), 1);
    }

    private static void washDries() {
        HotSteps x = Check.houseOf("2 3 3 1 1 2 60 0", 5, 5);
        Check.enter(x, 2);
        x.sit(1, 1);
        makeWet(x, 9);
        x.leave(0);
        x.wash();
        due("towel(0, 0)", x.towel(0, 0), 0);
        due("towel(1, 0)", x.towel(1, 0), 9);
        due("towel(1, 2)", x.towel(1, 2), 1);
    }

    private static void washOnePeg() {
        HotSteps x = Check.houseOf("1 1 1 1 1 1 2 0", 5);
        x.enter(0);
        x.leave(0);
        due("wash()", x.wash(), 1);
        due("peg(0)", x.peg(0), 0);
        due("wash(), again", x.wash(), 0);
    }

    // ---- promises 35 to 37

    private static void valve() {
        test("Promise 35: OPENING of 0 and of 9, the answer is the previous one", EdgeDeedsTest::valveLeastAndMost);
        test("Promise 35: the same OPENING is recorded", EdgeDeedsTest::valveSame);
        test("Promise 35, range: a VALVE below 0, and as many as there are", () -> {
            for (int bad : new int[] {-1, 2, LEAST, MOST}) {
                HotSteps x = Check.houseOf("1 1 1 2 1 1 2 0", 5);
                Check.refuses(x, "valve(" + bad + ", 0)", () -> x.valve(bad, 0));
            }
        });
        test("Promise 35, range: an OPENING below 0, and of 10", () -> {
            for (int bad : new int[] {-1, 10, LEAST, MOST}) {
                HotSteps x = Check.houseOf("1 1 1 2 1 1 2 0", 5);
                Check.refuses(x, "valve(0, " + bad + ")", () -> x.valve(0, bad));
            }
        });
    }

    private static void valveLeastAndMost() {
        HotSteps x = Check.houseOf("1 1 1 4 1 1 2 0");
        due("valve(3, 9)", x.valve(3, 9), 0);
        due("opening(3)", x.opening(3), 9);
        due("valve(3, 0)", x.valve(3, 0), 9);
        due("opening(3), then", x.opening(3), 0);
        due("opening(0)", x.opening(0), 0);
    }

    private static void valveSame() {
        HotSteps x = Check.houseOf("1 1 1 1 1 1 2 0");
        due("valve(0, 0)", x.valve(0, 0), 0);
        due("size(16)", x.size(16), 1);
    }

    private static void waits() {
        test("Promise 36: 1 minute and 60 minutes, the least and the most", EdgeDeedsTest::waitsLeastAndMost);
        test("Promise 36, range: 0, 61, and far out", () -> {
            for (int bad : new int[] {0, -1, 61, LEAST, MOST}) {
                HotSteps x = Check.houseOf("1 1 1 2 1 1 2 0", 5);
                Check.refuses(x, "waits(" + bad + ")", () -> x.waits(bad));
            }
        });
        test("Promise 36: TIME becomes 9999, and -5 tells that it would be 10000", EdgeDeedsTest::waitsTo9999);
        test("Promise 36: at 9940 59 minutes pass, 60 do not", EdgeDeedsTest::waitsFrom9940);
        test("Promise 36: at 9999 a wrong number of minutes throws, it is not refused", () -> {
            HotSteps x = Check.houseOf("1 1 1 1 1 1 2 0", 5);
            Check.timeTo(x, 9999);
            Check.refuses(x, "waits(61)", () -> x.waits(61));
            Check.isOutOfRange("waits(MOST)", () -> x.waits(MOST));
        });
        test("Promise 36: the answer counts each time that one comes DOWN, also the same GUEST twice", EdgeDeedsTest::waitsCountsDowns);
    }

    private static void waitsLeastAndMost() {
        HotSteps x = Check.houseOf("1 1 1 1 1 1 2 0");
        due("waits(1)", x.waits(1), 0);
        due("size(9)", x.size(9), 1);
        due("waits(60)", x.waits(60), 0);
        due("size(9), then", x.size(9), 61);
        due("account(8)", x.account(8), 61);
    }

    private static void waitsTo9999() {
        HotSteps x = Check.houseOf("1 1 1 1 1 1 2 0", 5);
        Check.timeTo(x, 9998);
        Check.refused(x, "waits(2) at 9998", () -> x.waits(2), -5);
        due("waits(1) at 9998", x.waits(1), 0);
        due("size(9)", x.size(9), 9999);
        due("waits(1) at 9999", x.waits(1), -5);
        due("waits(60) at 9999", x.waits(60), -5);
        due("size(9), still", x.size(9), 9999);
    }

    private static void waitsFrom9940() {
        HotSteps x = Check.houseOf("1 1 1 1 1 1 2 0", 5);
        Check.timeTo(x, 9940);
        Check.refused(x, "waits(60) at 9940", () -> x.waits(60), -5);
        due("waits(59) at 9940", x.waits(59), 0);
        due("size(9)", x.size(9), 9999);
    }

    private static void waitsCountsDowns() {
        HotSteps x = Check.houseOf("2 2 2 4 3 1 60 0", 10, 10);
        Check.heatTo(x, 100);
        Check.enter(x, 2);
        x.sit(0, 3);
        // STEP 3 has 118, one bears 62: 12 at once; then STEP 2, 112: 11; then STEP 1, 106: 9 more
        due("waits(3)", x.waits(3), 3);
        due("guest(0, 1)", x.guest(0, 1), 0);
        due("account(4)", x.account(4), 3);
        due("waits(1), then", x.waits(1), 0);
    }

    private static void set() {
        test("Promise 37: ROOM of 1 and 9, GONG of 2 and 60, QUIET of 0 and 30, the least and the most", EdgeDeedsTest::setLeastAndMost);
        test("Promise 37, range: one below the least, and one above the most", () -> {
            int[][] bad = {{6, 0}, {6, 10}, {7, 1}, {7, 61}, {8, -1}, {8, 31}, {6, LEAST}, {6, MOST}, {7, LEAST}, {7, MOST}, {8, LEAST}, {8, MOST}};
            for (int[] two : bad) {
                HotSteps x = Check.houseOf("1 1 1 1 1 5 20 10", 5);
                Check.refuses(x, "set(" + two[0] + ", " + two[1] + ")", () -> x.set(two[0], two[1]));
            }
        });
        test("Promise 37, range: what of 5, of 9, and far out, with a value that all allow", () -> {
            for (int bad : new int[] {5, 9, 0, -1, LEAST, MOST}) {
                HotSteps x = Check.houseOf("1 1 1 1 1 5 20 10", 5);
                Check.refuses(x, "set(" + bad + ", 5)", () -> x.set(bad, 5));
            }
        });
        test("Promise 37: a smaller ROOM, and nobody goes by that, but nobody else comes", EdgeDeedsTest::setSmallerRoom);
        test("Promise 37: the same value is recorded", EdgeDeedsTest::setSame);
        test("Promise 37: another QUIET ends SILENCE, or makes it, at once", EdgeDeedsTest::setQuietAtOnce);
    }

    private static void setLeastAndMost() {
        HotSteps x = Check.houseOf("1 1 1 1 1 5 20 10");
        int[][] cases = {{6, 1, 5}, {6, 9, 1}, {7, 2, 20}, {7, 60, 2}, {8, 0, 10}, {8, 30, 0}};
        for (int[] one : cases) {
            due("set(" + one[0] + ", " + one[1] + ")", x.set(one[0], one[1]), one[2]);
            due("size(" + one[0] + ")", x.size(one[0]), one[1]);
        }
    }

    private static void setSmallerRoom() {
        HotSteps x = Check.houseOf("3 3 3 1 1 3 60 0", 5, 5, 5);
        Check.enter(x, 3);
        x.sit(0, 1);
        x.sit(1, 1);
        x.set(6, 1);
        due("step(1, 0)", x.step(1, 0), 2);
        x.waits(1);
        due("step(1, 0), a minute later", x.step(1, 0), 2);
        due("sit(2, 1)", x.sit(2, 1), -2);
        x.hall(0);
        due("sit(2, 1), with one there", x.sit(2, 1), -2);
        due("sit(1, 1), it alone", x.sit(1, 1) > 0 ? 1 : 0, 1);
    }

    private static void setSame() {
        HotSteps x = Check.houseOf("1 1 1 1 1 5 20 10");
        due("set(6, 5)", x.set(6, 5), 5);
        due("set(7, 20)", x.set(7, 20), 20);
        due("set(8, 10)", x.set(8, 10), 10);
        due("size(16)", x.size(16), 3);
    }

    private static void setQuietAtOnce() {
        HotSteps x = Check.houseOf("1 1 1 1 1 5 20 10");
        Check.timeTo(x, 25);
        x.set(8, 5);
        due("size(15), QUIET of 5", x.size(15), 0);
        x.set(8, 6);
        due("size(15), QUIET of 6", x.size(15), 1);
        x.set(8, 0);
        due("size(15), QUIET of 0", x.size(15), 0);
    }
}
