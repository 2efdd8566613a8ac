import java.util.function.Function;

/** The boundary cases of "Changes", with promises 4 and 40 to 42, a test each. */
public final class EdgeChangesTest {
    private static final int NONE = HotSteps.NONE;
    private static final int LEAST = Integer.MIN_VALUE;
    private static final int MOST = Integer.MAX_VALUE;

    public static void main(String[] args) {
        recorded();
        scripts();
        scriptsOfForty();
        undo();
        undoRestores();
        save();
        restore();
        ahead();
        manyCalls();
        Check.end("EdgeChangesTest");
    }

    private static void test(String name, Runnable body) {
        Check.test(name, body);
    }

    private static void due(String call, long got, long want) {
        Check.due(call, got, want);
    }

    /** Two guests, in the HALL and OUT, with a free PEG; a gong each 2 minutes. */
    private static HotSteps small() {
        HotSteps x = Check.houseOf("2 3 2 1 2 2 2 30", 9, 9);
        x.enter(0);
        return x;
    }

    // ---- what is recorded

    private static void recorded() {
        test("Promise 27 to 37, changes: each change that is not refused is recorded, one each", EdgeChangesTest::eachIsRecorded);
        test("Promise 27 to 37, changes: recorded also if nothing is different then", EdgeChangesTest::sameIsRecorded);
        test("Promise 27 to 37, changes: one that is refused is not recorded, nor one that throws", EdgeChangesTest::refusedIsNotRecorded);
        test("Promise 27 to 37, changes: the other calls are no changes", EdgeChangesTest::othersAreNotRecorded);
        test("Promise 27 to 37, changes: a number out of its range throws, though the GUEST could not do it", EdgeChangesTest::rangeAheadOfRefusal);
        test("Promise 27 to 37, changes: account 9 counts each refusal, and none that throws", EdgeChangesTest::account9);
    }

    private static void eachIsRecorded() {
        HotSteps x = Check.houseOf("2 3 2 1 2 2 2 30", 9, 9);
        int[] answers = {x.enter(0), x.sit(0, 1), x.hall(0), x.hang(0, 2), x.take(0, 2), x.speak(0), x.leave(0)};
        int[] want = {0, 36, 1, 0, 0, 0, 0};
        for (int i = 0; i < want.length; i++) {
            due("change " + i, answers[i], want[i]);
        }
        due("size(16)", x.size(16), 7);
        x.wash();
        due("size(16), with the 8th", x.size(16), 8);
        HotSteps y = Check.houseOf("2 3 2 1 2 2 2 30", 9, 9);
        y.valve(0, 1);
        y.waits(1);
        y.set(6, 1);
        due("size(16), valve, waits and set", y.size(16), 3);
        due("play()", Check.play(y, "wash;wash;wait 1;"), 3);
        due("size(16), play as a whole", y.size(16), 4);
    }

    private static void sameIsRecorded() {
        HotSteps x = small();
        x.sit(0, 1);
        int before = x.size(16);
        x.sit(0, 1);
        x.speak(0);
        x.wash();
        x.valve(0, 0);
        x.set(6, 2);
        x.play();
        due("size(16)", x.size(16), before + 6);
    }

    private static void refusedIsNotRecorded() {
        HotSteps x = small();
        due("enter(0)", x.enter(0), -2);
        due("sit(1, 1)", x.sit(1, 1), -2);
        due("hall(0)", x.hall(0), -3);
        due("hang(0, 1)", x.hang(0, 1), -2);
        due("take(0, 1)", x.take(0, 1), -2);
        due("leave(1)", x.leave(1), -2);
        due("speak(1)", x.speak(1), -4);
        due("play of an error", Check.play(x, "wash"), -21);
        Check.isOutOfRange("enter(2)", () -> x.enter(2));
        Check.isOutOfRange("set(6, 0)", () -> x.set(6, 0));
        due("size(16)", x.size(16), 1);
        due("account(9)", x.account(9), 7);
    }

    private static void othersAreNotRecorded() {
        HotSteps x = small();
        x.feed(1, 0, 0, 0, 0);
        x.find();
        x.save(0);
        x.report();
        x.reportByte(0);
        x.heatIn(200);
        x.downIn(0);
        x.dryIn(0);
        x.silenceIn();
        x.ifValve(0, 9);
        x.why(0, 0, 0);
        x.highest(0);
        x.errorPosition();
        due("size(16)", x.size(16), 1);
    }

    private static void rangeAheadOfRefusal() {
        HotSteps x = small();
        Check.isOutOfRange("sit(1, 3)", () -> x.sit(1, 3));
        Check.isOutOfRange("sit(1, 0)", () -> x.sit(1, 0));
        Check.isOutOfRange("hang(1, 3)", () -> x.hang(1, 3));
        Check.isOutOfRange("take(1, -1)", () -> x.take(1, -1));
        Check.isOutOfRange("restore(2)", () -> x.restore(2));
        due("account(9)", x.account(9), 0);
    }

    private static void account9() {
        HotSteps x = small();
        for (int i = 1; i <= 20; i++) {
            due("speak(1)", x.speak(1), -4);
            due("account(9)", x.account(9), i);
        }
        Check.isOutOfRange("speak(2)", () -> x.speak(2));
        due("account(9), then", x.account(9), 20);
        Check.play(x, "wash;speak b;");
        due("account(9), of an order", x.account(9), 21);
    }

    // ---- promise 4: where a script ends

    private static void scripts() {
        test("Promise 4: each order that is refused ends the script and counts in account 9", EdgeChangesTest::refusedOrders);
        test("Promise 4: an order of a GUEST that there is not ends the script, and is no refusal", EdgeChangesTest::ordersOfNoGuest);
        test("Promise 4: an order of a STEP, PEG or VALVE one above those there ends the script, and is no refusal", EdgeChangesTest::ordersOfNoPlace);
        test("Promise 4: what there is not is told ahead of a refusal, so account 9 stays", EdgeChangesTest::noPlaceAheadOfRefusal);
        test("Promise 4: the last STEP, PEG and VALVE that there are", EdgeChangesTest::lastPlaces);
        test("Promise 4: the first order is refused, 0 orders are done and it is recorded", EdgeChangesTest::firstOrderRefused);
        test("Promise 4: a refusal inside brackets ends all, at both depths", EdgeChangesTest::refusedInBrackets);
        test("Promise 4: wait to 9999 is done, and beyond it is refused", EdgeChangesTest::waitInScript);
        test("Promise 4: TIMES of 0 skips the brackets, of 1 does them once", EdgeChangesTest::timesOfZero);
        test("Promise 4: undone as a whole, also when it ended early", EdgeChangesTest::undoneAsWhole);
    }

    /** The script does one order, then the one that ends it, and not the wait behind it. */
    private static void ends(String what, HotSteps x, String order, int refusals) {
        int before = x.account(9);
        int time = x.size(9);
        due("play with " + what, Check.play(x, "wash;" + order + ";wait 1;"), 1);
        due("account(9) behind " + what, x.account(9), before + refusals);
        due("size(9) behind " + what, x.size(9), time);
        due("errorPosition() behind " + what, x.errorPosition(), NONE);
    }

    private static void refusedOrders() {
        String[] orders = {"enter a", "sit b 1", "hall a", "hang a 1", "take a 1", "leave b", "speak b"};
        for (String order : orders) {
            ends(order, small(), order, 1);
        }
    }

    private static void ordersOfNoGuest() {
        String[] orders = {"enter c", "sit c 1", "hall c", "hang c 2", "take c 1", "leave c", "speak c"};
        for (String order : orders) {
            ends(order, small(), order, 0);
        }
        HotSteps x = Check.houseOf("1 1 1 1 1 1 2 0");
        ends("enter a, without guests", x, "enter a", 0);
    }

    private static void ordersOfNoPlace() {
        String[] orders = {"sit a 3", "sit a 6", "hang a 3", "hang a 15", "take a 3", "take a 15", "valve 1 5", "valve 3 5"};
        for (String order : orders) {
            ends(order, small(), order, 0);
        }
    }

    private static void noPlaceAheadOfRefusal() {
        ends("sit b 3, who is OUT", small(), "sit b 3", 0);
        ends("hang b 3, who is OUT", small(), "hang b 3", 0);
        ends("take a 3, who has a TOWEL", small(), "take a 3", 0);
        ends("sit c 3", small(), "sit c 3", 0);
    }

    private static void lastPlaces() {
        HotSteps x = small();
        due("play()", Check.play(x, "hang a 2;take a 2;sit a 2;valve 0 9;"), 4);
        due("guest(0, 1)", x.guest(0, 1), 2);
        due("opening(0)", x.opening(0), 9);
    }

    private static void firstOrderRefused() {
        HotSteps x = small();
        due("play()", Check.play(x, "enter a;wait 1;"), 0);
        due("size(16)", x.size(16), 2);
        due("account(9)", x.account(9), 1);
        due("undo()", x.undo(), 1);
        due("account(9), undone", x.account(9), 1);
    }

    private static void refusedInBrackets() {
        HotSteps x = small();
        due("play(), once in brackets", Check.play(x, "again 5(wait 1;enter a;wait 1;);wait 1;"), 1);
        due("size(9)", x.size(9), 1);
        due("account(9)", x.account(9), 1);
        due("play(), twice in brackets", Check.play(x, "again 5(again 5(wait 1;hall a;);wait 1;);wait 1;"), 1);
        due("size(9), then", x.size(9), 2);
        due("account(9), then", x.account(9), 2);
        due("play(), in the second round", Check.play(x, "again 5(sit a 1;again 2(hall a;wait 1;););wait 1;"), 3);
        due("account(9), behind that", x.account(9), 3);
    }

    private static void waitInScript() {
        HotSteps x = small();
        Check.timeTo(x, 9990);
        due("play() to 9999", Check.play(x, "wait 9;wash;"), 2);
        due("size(9)", x.size(9), 9999);
        due("play() beyond", Check.play(x, "wash;wait 1;wash;"), 1);
        due("size(9), still", x.size(9), 9999);
        due("account(9)", x.account(9), 1);
    }

    private static void timesOfZero() {
        HotSteps x = small();
        due("play() of 0", Check.play(x, "again 0(wait 60;enter a;);wait 1;"), 1);
        due("play() of 0 in brackets", Check.play(x, "again 2(again 0(wait 60;enter a;);wait 1;);"), 2);
        due("play() of 1", Check.play(x, "again 1(wait 2;);"), 1);
        due("size(9)", x.size(9), 5);
        due("account(9)", x.account(9), 0);
    }

    private static void undoneAsWhole() {
        HotSteps x = small();
        String before = Check.lookAtState(x);
        Check.play(x, "wait 2;speak a;sit a 1;wait 9;valve 0 9;enter b;enter b;");
        due("account(9)", x.account(9), 1);
        due("undo()", x.undo(), 1);
        Check.dueText("all undone", Check.lookAtState(x), before);
    }

    private static void scriptsOfForty() {
        test("Promise 4: 39 and 40 orders are done, the 41st is not", EdgeChangesTest::fortyOrders);
        test("Promise 4: again is not counted to the 40", EdgeChangesTest::againIsNotCounted);
        test("Promise 4: the 41st order is not tried, so it is not refused", EdgeChangesTest::fortyFirstIsNotTried);
        test("Promise 4: 40 orders end the script in the middle of brackets, and those behind them", EdgeChangesTest::fortyInBrackets);
        test("Promise 4: the 40th order is refused, 39 are done", EdgeChangesTest::fortiethIsRefused);
        test("Promise 4: the most rounds that do nothing, 20 times 20, end", () ->
            due("play()", Check.play(small(), "again 20(again 20();again 20(););wash;"), 1));
        test("Promise 4: the next script counts from 0 again", EdgeChangesTest::nextScriptCountsAnew);
    }

    private static void fortyOrders() {
        int[][] cases = {{19, 39}, {20, 40}};
        for (int[] one : cases) {
            HotSteps x = small();
            due("play()", Check.play(x, "again 20(wait 1;);again " + one[0] + "(wait 1;);"), one[1]);
            due("size(9)", x.size(9), one[1]);
        }
        HotSteps x = small();
        due("play() of 41", Check.play(x, "again 20(wait 1;wait 1;);wait 1;"), 40);
        due("size(9)", x.size(9), 40);
    }

    private static void againIsNotCounted() {
        HotSteps x = small();
        due("play()", Check.play(x, "again 10(again 2(wait 1;);again 2(wait 1;););"), 40);
        due("size(9)", x.size(9), 40);
        due("play(), with again that does nothing", Check.play(x, "again 20(again 0();wait 1;again 1(););again 19(wait 1;);"), 39);
    }

    private static void fortyFirstIsNotTried() {
        HotSteps x = small();
        due("play()", Check.play(x, "again 20(wash;wash;);enter a;"), 40);
        due("account(9)", x.account(9), 0);
        due("play(), in brackets", Check.play(x, "again 20(wash;wash;again 1(enter a;););"), 2);
        due("account(9), then", x.account(9), 1);
    }

    private static void fortyInBrackets() {
        HotSteps x = small();
        due("play() of 13 times 3 and 1", Check.play(x, "again 20(wait 1;wait 2;wait 3;);wait 60;"), 40);
        due("size(9)", x.size(9), 13 * 6 + 1);
        due("play() of 7 times 6 and so on", Check.play(x, "again 20(again 2(wait 1;wait 1;wait 1;););wait 60;"), 40);
        due("size(9), then", x.size(9), 79 + 40);
    }

    private static void fortiethIsRefused() {
        HotSteps x = small();
        due("play()", Check.play(x, "again 13(wash;wash;wash;);enter a;wait 1;"), 39);
        due("account(9)", x.account(9), 1);
        due("size(9)", x.size(9), 0);
    }

    private static void nextScriptCountsAnew() {
        HotSteps x = small();
        due("play()", Check.play(x, "again 20(again 20(wash;););"), 40);
        due("play(), again", Check.play(x, "again 20(again 20(wash;););"), 40);
        due("play(), one", Check.play(x, "wash;"), 1);
    }

    // ---- promise 40

    private static void undo() {
        test("Promise 40, empty: NONE on a new object, behind load, and when all is undone", EdgeChangesTest::nothingToUndo);
        test("Promise 40, full: of 7, 8 and 9 changes 7, 8 and 8 can be undone", EdgeChangesTest::eightChanges);
        test("Promise 40: the changes go round, each of 30 is undone in its turn", EdgeChangesTest::changesGoRound);
        test("Promise 40: undone and done anew, again and again, the count never goes beyond 8", EdgeChangesTest::undoneAndDoneAnew);
        test("Promise 40: a change behind an undo takes its place", EdgeChangesTest::changeBehindUndo);
    }

    private static void nothingToUndo() {
        HotSteps x = new HotSteps();
        due("undo() at first", x.undo(), NONE);
        x.waits(1);
        due("undo() of one", x.undo(), 0);
        due("undo() of none", x.undo(), NONE);
        due("size(16)", x.size(16), 0);
        due("size(9)", x.size(9), 0);
        x.waits(1);
        Check.load(x, "bath 1 1 1 1 1 1 2 0");
        due("undo() behind load", x.undo(), NONE);
    }

    private static void eightChanges() {
        for (int changes = 7; changes <= 9; changes++) {
            HotSteps x = new HotSteps();
            for (int i = 0; i < changes; i++) {
                x.waits(1);
                due("size(16)", x.size(16), Math.min(8, i + 1));
            }
            for (int i = Math.min(8, changes) - 1; i >= 0; i--) {
                due("undo()", x.undo(), i);
                due("size(16)", x.size(16), i);
            }
            due("size(9), of " + changes, x.size(9), changes == 9 ? 1 : 0);
            due("undo(), once more", x.undo(), NONE);
        }
    }

    private static void changesGoRound() {
        HotSteps x = new HotSteps();
        for (int i = 1; i <= 30; i++) {
            x.waits(i);
        }
        due("size(9)", x.size(9), 465);
        int time = 465;
        for (int i = 30; i > 22; i--) {
            time -= i;
            due("undo()", x.undo(), i - 23);
            due("size(9)", x.size(9), time);
        }
        due("undo(), once more", x.undo(), NONE);
        due("size(9), still", x.size(9), time);
    }

    private static void undoneAndDoneAnew() {
        HotSteps x = new HotSteps();
        for (int i = 0; i < 12; i++) {
            x.waits(1);
        }
        for (int round = 0; round < 20; round++) {
            due("undo()", x.undo(), 7);
            due("undo(), again", x.undo(), 6);
            x.waits(2);
            x.waits(3);
            due("size(16)", x.size(16), 8);
            due("size(9)", x.size(9), 15);
        }
    }

    private static void changeBehindUndo() {
        HotSteps x = new HotSteps();
        x.waits(1);
        x.waits(2);
        x.undo();
        x.waits(4);
        due("size(9)", x.size(9), 5);
        due("undo()", x.undo(), 1);
        due("size(9), then", x.size(9), 1);
        due("undo(), again", x.undo(), 0);
        due("size(9), at last", x.size(9), 0);
    }

    private static void undoRestores() {
        test("Promise 40: each change is undone wholly", EdgeChangesTest::eachIsUndone);
        test("Promise 40: STRAIN and WET of a minute in which one came DOWN", EdgeChangesTest::undoOfStrain);
        test("Promise 40: the buffer stays", () -> {
            HotSteps x = small();
            x.waits(1);
            Check.put(x, "a");
            x.undo();
            due("find()", x.find(), 0);
            due("the buffer", x.feed(0, 0, 0, 0, 0), 1);
        });
        test("Promise 40: the buffer that play emptied stays empty", () -> {
            HotSteps x = small();
            Check.play(x, "wash;");
            x.undo();
            due("the buffer", x.feed(0, 0, 0, 0, 0), 0);
        });
        test("Promise 40: the error position stays", () -> {
            HotSteps x = small();
            x.waits(1);
            Check.play(x, "wash");
            x.undo();
            due("errorPosition()", x.errorPosition(), 4);
        });
        test("Promise 40: account 9 stays, the other accounts do not", EdgeChangesTest::undoLeavesAccount9);
        test("Promise 40: the report stays", () -> {
            HotSteps x = Check.houseOf("2 3 2 1 1 2 2 30", 9, 9);
            x.enter(0);
            x.report();
            x.undo();
            due("reportByte(5), a in the HALL", x.reportByte(5), 'a');
        });
        test("Promise 40: the saved states stay", () -> {
            HotSteps x = small();
            x.waits(5);
            x.save(0);
            x.undo();
            due("size(9)", x.size(9), 0);
            due("restore(0)", x.restore(0), 5);
        });
        test("Promise 40: no gong is left when the one that sounded is undone", () -> {
            HotSteps x = small();
            x.waits(2);
            due("size(15)", x.size(15), 1);
            x.undo();
            due("size(15), undone", x.size(15), 0);
            due("silenceIn()", x.silenceIn(), 2);
            due("account(7)", x.account(7), 0);
        });
        test("Promise 40: one who was SENT out is in again, and can ENTER later on that day", EdgeChangesTest::undoOfSending);
    }

    /** Guest 0 is warned twice and in the HALL with a wet towel, guest 1 on a STEP, guest 2 OUT, a TOWEL in the BASKET; it is SILENCE. */
    private static HotSteps busy() {
        HotSteps x = Check.houseOf("4 6 4 1 3 2 2 30", 9, 30, 60, 50);
        Check.play(x, "enter a;enter b;enter d;leave d;sit b 3;sit a 1;wait 3;hall a;speak a;speak a;valve 0 5;");
        return x;
    }

    private static void isUndone(String what, Function<HotSteps, Integer> change) {
        HotSteps x = busy();
        String before = Check.lookAtState(x);
        int answer = change.apply(x);
        due(what + " is not refused", answer >= 0 ? 1 : 0, 1);
        due(what + " changes something", Check.lookAtState(x).equals(before) ? 1 : 0, 0);
        due("undo() of " + what, x.undo(), 1);
        Check.dueText("all behind undo of " + what, Check.lookAtState(x), before);
    }

    private static void eachIsUndone() {
        isUndone("enter(2)", x -> x.enter(2));
        isUndone("sit(0, 2)", x -> x.sit(0, 2));
        isUndone("sit(1, 1)", x -> x.sit(1, 1));
        isUndone("hall(1)", x -> x.hall(1));
        isUndone("hang(0, 5)", x -> x.hang(0, 5));
        isUndone("leave(0)", x -> x.leave(0));
        isUndone("speak(0), the third", x -> x.speak(0));
        isUndone("speak(1), the first", x -> x.speak(1));
        isUndone("wash()", x -> x.wash());
        isUndone("valve(0, 0)", x -> x.valve(0, 0));
        isUndone("waits(1)", x -> x.waits(1));
        isUndone("waits(60)", x -> x.waits(60));
        isUndone("set(6, 9)", x -> x.set(6, 9));
        isUndone("set(7, 60)", x -> x.set(7, 60));
        isUndone("set(8, 0)", x -> x.set(8, 0));
        isUndone("play()", x -> Check.play(x, "hang a 5;take a 3;wash;wait 7;"));
    }

    /** One above what the guest bears: STRAIN is 9, then it comes DOWN with 5. */
    private static void undoOfStrain() {
        HotSteps x = Check.houseOf("1 1 1 4 1 1 60 0", 0);
        Check.heatTo(x, 55);
        x.enter(0);
        x.sit(0, 1);
        x.waits(8);
        x.waits(1);
        x.waits(1);
        due("guest(0, 4), in the HALL", x.guest(0, 4), 5);
        x.undo();
        due("guest(0, 4), undone", x.guest(0, 4), 9);
        due("guest(0, 1), undone", x.guest(0, 1), 1);
        due("account(4), undone", x.account(4), 0);
        x.undo();
        due("guest(0, 4), undone twice", x.guest(0, 4), 8);
        due("towel(0, 0), undone twice", x.towel(0, 0), 8);
    }

    private static void undoLeavesAccount9() {
        HotSteps x = small();
        x.waits(2);
        x.speak(0);
        x.hall(0);
        x.hall(0);
        due("undo()", x.undo(), 2);
        due("account(3)", x.account(3), 0);
        due("account(9)", x.account(9), 2);
        x.undo();
        due("account(8)", x.account(8), 0);
        due("account(9), still", x.account(9), 2);
    }

    private static void undoOfSending() {
        HotSteps x = busy();
        due("speak(0)", x.speak(0), 3);
        x.undo();
        due("guest(0, 8)", x.guest(0, 8), NONE);
        due("guest(0, 5)", x.guest(0, 5), 2);
        x.leave(0);
        due("enter(0)", x.enter(0), 0);
    }

    // ---- promises 41 and 42

    private static void save() {
        test("Promise 41: slots 0 and 1 are apart", EdgeChangesTest::slotsApart);
        test("Promise 41: in place of what was saved before", EdgeChangesTest::savedInPlace);
        test("Promise 41: the answer is TIME, 0 at first and 9999 at last", EdgeChangesTest::saveTime);
        test("Promise 41: what comes behind does not change what was saved", EdgeChangesTest::savedIsKept);
        test("Promise 41, range: slot -1 and 2", () -> {
            for (int bad : new int[] {-1, 2, LEAST, MOST}) {
                HotSteps x = small();
                Check.refuses(x, "save(" + bad + ")", () -> x.save(bad));
            }
        });
    }

    private static void slotsApart() {
        HotSteps x = small();
        x.waits(1);
        due("save(0)", x.save(0), 1);
        x.waits(1);
        due("save(1)", x.save(1), 2);
        x.waits(1);
        due("restore(0)", x.restore(0), 1);
        due("restore(1)", x.restore(1), 2);
        due("restore(0), again", x.restore(0), 1);
    }

    private static void savedInPlace() {
        HotSteps x = small();
        x.save(0);
        x.waits(7);
        x.save(0);
        x.waits(7);
        due("restore(0)", x.restore(0), 7);
    }

    private static void saveTime() {
        HotSteps x = small();
        due("save(0)", x.save(0), 0);
        Check.timeTo(x, 9999);
        due("save(1)", x.save(1), 9999);
        due("restore(0)", x.restore(0), 0);
        due("restore(1)", x.restore(1), 9999);
        due("size(9)", x.size(9), 9999);
    }

    private static void savedIsKept() {
        HotSteps x = busy();
        String before = Check.lookAtState(x);
        x.save(1);
        Check.play(x, "hang a 5;take a 3;wash;wait 60;valve 0 9;hall b;leave b;enter c;");
        x.set(6, 9);
        x.set(7, 60);
        x.set(8, 1);
        x.restore(1);
        Check.dueText("all behind restore", Check.lookAtState(x), before);
    }

    private static void restore() {
        test("Promise 42, empty: nothing was saved in a slot, though something was in the other", EdgeChangesTest::nothingSaved);
        test("Promise 42: a slot stays, it is brought back again and again, also behind other changes", EdgeChangesTest::slotStays);
        test("Promise 42: nothing can be undone afterwards, but what comes then", EdgeChangesTest::nothingUndoneBehindRestore);
        test("Promise 42: account 9, the buffer, the error position, the report and the other slot stay", EdgeChangesTest::restoreLeaves);
        test("Promise 42: a restore that throws discards nothing", EdgeChangesTest::restoreThatThrows);
        test("Promise 42, range: slot -1 and 2 are told ahead of an empty slot", () -> {
            for (int bad : new int[] {-1, 2, LEAST, MOST}) {
                HotSteps x = small();
                Check.refuses(x, "restore(" + bad + ")", () -> x.restore(bad));
            }
        });
    }

    private static void nothingSaved() {
        HotSteps x = small();
        Check.findsNothing(x, "restore(0)", () -> x.restore(0));
        x.save(1);
        Check.findsNothing(x, "restore(0), 1 is saved", () -> x.restore(0));
        HotSteps y = small();
        y.save(0);
        Check.findsNothing(y, "restore(1), 0 is saved", () -> y.restore(1));
    }

    private static void slotStays() {
        HotSteps x = busy();
        x.save(0);
        String saved = Check.lookAtState(x);
        for (int i = 0; i < 2; i++) {
            Check.play(x, "wait 9;valve 0 0;leave a;hall b;");
            due("restore(0)", x.restore(0), 3);
            Check.dueText("all behind restore", Check.lookAtState(x), saved);
        }
    }

    private static void nothingUndoneBehindRestore() {
        HotSteps x = small();
        x.waits(1);
        x.save(0);
        x.waits(1);
        x.restore(0);
        due("size(16)", x.size(16), 0);
        due("undo()", x.undo(), NONE);
        due("size(9)", x.size(9), 1);
        x.waits(3);
        due("undo() of what came then", x.undo(), 0);
        due("size(9), then", x.size(9), 1);
    }

    private static void restoreLeaves() {
        HotSteps x = Check.houseOf("2 3 2 1 1 2 2 30", 9, 9);
        x.save(0);
        x.hall(0);
        x.enter(0);
        x.save(1);
        x.report();
        Check.play(x, "wash");
        Check.put(x, "b");
        x.restore(0);
        due("account(9)", x.account(9), 1);
        due("account(0)", x.account(0), 0);
        due("find()", x.find(), 1);
        due("errorPosition()", x.errorPosition(), 4);
        due("reportByte(5), a in the HALL", x.reportByte(5), 'a');
        due("restore(1)", x.restore(1), 0);
        due("guest(0, 1)", x.guest(0, 1), 0);
    }

    private static void restoreThatThrows() {
        HotSteps x = small();
        x.waits(1);
        Check.findsNothing(x, "restore(1)", () -> x.restore(1));
        due("undo()", x.undo(), 1);
        due("size(9)", x.size(9), 0);
    }

    // ---- what will be, and many calls

    private static void ahead() {
        test("Promise 22 to 26: what will be is told beyond TIME 9999, as if minutes passed", EdgeChangesTest::aheadBeyondLastTime);
        test("Promise 22 to 26: nothing changes by what will be", EdgeChangesTest::aheadChangesNothing);
    }

    private static void aheadBeyondLastTime() {
        HotSteps x = Check.houseOf("2 3 3 4 1 2 20 5", 0, 0);
        Check.timeTo(x, 9900);
        Check.heatTo(x, 55);
        Check.timeTo(x, 9996);
        Check.enter(x, 2);
        x.sit(0, 1);
        x.sit(1, 1);
        x.waits(3);
        x.hall(1);
        x.hang(1, 1);
        due("size(9)", x.size(9), 9999);
        due("silenceIn()", x.silenceIn(), 1);
        // STRAIN is 3 and becomes 1 greater each minute
        due("downIn(0)", x.downIn(0), 7);
        due("dryIn(1)", x.dryIn(1), 3);
        due("heatIn(200)", x.heatIn(200), 55);
        due("ifValve(3, 9)", x.ifValve(3, 9), 64);
        x.set(8, 0);
        due("silenceIn(), QUIET of 0", x.silenceIn(), NONE);
        due("size(9), still", x.size(9), 9999);
    }

    private static void aheadChangesNothing() {
        HotSteps x = busy();
        String before = Check.look(x);
        x.heatIn(200);
        x.downIn(1);
        x.dryIn(0);
        x.silenceIn();
        x.ifValve(0, 9);
        Check.dueText("all", Check.look(x), before);
    }

    private static void manyCalls() {
        test("Promise 1 to 42, 512 calls: the 512th call answers as the first", EdgeChangesTest::lastCall);
        test("Promise 1 to 42, 512 calls: 512 changes, of which 8 can be undone", EdgeChangesTest::onlyChanges);
        test("Promise 1 to 42, 512 calls: each of 512 calls is refused", EdgeChangesTest::onlyRefusals);
        test("Promise 1 to 42, 512 calls: 512 calls of load, play, save and restore", EdgeChangesTest::onlyTexts);
    }

    private static void lastCall() {
        HotSteps x = new HotSteps();
        for (int call = 1; call <= 510; call += 2) {
            due("waits(1)", x.waits(1), 0);
            due("undo()", x.undo(), 0);
        }
        due("heatIn(200), the 511th", x.heatIn(200), 0);
        due("waits(1), the 512th", x.waits(1), 0);
    }

    private static void onlyChanges() {
        HotSteps x = new HotSteps();
        for (int call = 1; call <= 503; call++) {
            x.waits(1);
        }
        for (int call = 504; call <= 511; call++) {
            due("undo(), call " + call, x.undo(), 511 - call);
        }
        due("size(9), the 512th", x.size(9), 495);
    }

    private static void onlyRefusals() {
        HotSteps x = new HotSteps();
        for (int call = 1; call <= 511; call++) {
            due("speak(0)", x.speak(0), -4);
        }
        due("account(9), the 512th", x.account(9), 511);
    }

    private static void onlyTexts() {
        HotSteps x = new HotSteps();
        for (int call = 1; call <= 506; call += 11) {
            due("load()", Check.load(x, "bath 12 16 16 4 6 9 60 30;guest a 99"), 1);
            due("save(1)", x.save(1), 0);
            due("play()", Check.play(x, "again 20(again 20(wait 60;););"), 40);
            due("size(9)", x.size(9), 2400);
            due("restore(1)", x.restore(1), 0);
            due("undo()", x.undo(), NONE);
        }
    }
}
