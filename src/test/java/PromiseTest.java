import java.util.List;
import java.util.function.IntSupplier;
import java.util.function.ToIntFunction;

/** Each promise by its number: ordinary inputs, the edges that the document names, wrong inputs. */
public final class PromiseTest {
    private static final int NONE = HotSteps.NONE;
    private static final int LEAST = Integer.MIN_VALUE;
    private static final int MOST = Integer.MAX_VALUE;
    private static final String SIXTEEN = ";guest a 0;guest b 5;guest c 10;guest d 15;guest e 20;guest f 25;guest g 30;guest h 35"
        + ";guest i 40;guest j 45;guest k 50;guest l 55;guest m 60;guest n 65;guest o 70;guest p 99";
    /** Heat stays 100 with these valves once it is there. */
    private static final String HOT = "valve 0 9; valve 1 9; valve 2 9; valve 3 9; wait 3;";

    public static void main(String[] args) {
        Check.test("promise1NewObject", PromiseTest::promise1NewObject);
        Check.test("promise2Feed", PromiseTest::promise2Feed);
        Check.test("promise3Load", PromiseTest::promise3Load);
        Check.test("promise3LoadErrors", PromiseTest::promise3LoadErrors);
        Check.test("promise4Play", PromiseTest::promise4Play);
        Check.test("promise4PlayEnds", PromiseTest::promise4PlayEnds);
        Check.test("promise4PlayErrors", PromiseTest::promise4PlayErrors);
        Check.test("promise5ErrorPosition", PromiseTest::promise5ErrorPosition);
        Check.test("promise6Size", PromiseTest::promise6Size);
        Check.test("promise7Guest", PromiseTest::promise7Guest);
        Check.test("promise8Towel", PromiseTest::promise8Towel);
        Check.test("promise9Peg", PromiseTest::promise9Peg);
        Check.test("promise10Locker", PromiseTest::promise10Locker);
        Check.test("promise11Opening", PromiseTest::promise11Opening);
        Check.test("promise12Step", PromiseTest::promise12Step);
        Check.test("promise13Driest", PromiseTest::promise13Driest);
        Check.test("promise14Letter", PromiseTest::promise14Letter);
        Check.test("promise15Find", PromiseTest::promise15Find);
        Check.test("promise16WhyEnterAndLeave", PromiseTest::promise16WhyEnterAndLeave);
        Check.test("promise16WhySit", PromiseTest::promise16WhySit);
        Check.test("promise16CauseBesideItself", PromiseTest::promise16CauseBesideItself);
        Check.test("promise16WhyHangAndTake", PromiseTest::promise16WhyHangAndTake);
        Check.test("promise16WhyRange", PromiseTest::promise16WhyRange);
        Check.test("promise17Highest", PromiseTest::promise17Highest);
        Check.test("promise18Account", PromiseTest::promise18Account);
        Check.test("promise19Gap", PromiseTest::promise19Gap);
        Check.test("promise20MeanWet", PromiseTest::promise20MeanWet);
        Check.test("promise21HeatBits", PromiseTest::promise21HeatBits);
        Check.test("promise22HeatIn", PromiseTest::promise22HeatIn);
        Check.test("promise23DownIn", PromiseTest::promise23DownIn);
        Check.test("promise24DryIn", PromiseTest::promise24DryIn);
        Check.test("promise25SilenceIn", PromiseTest::promise25SilenceIn);
        Check.test("promise26IfValve", PromiseTest::promise26IfValve);
        Check.test("promise27Enter", PromiseTest::promise27Enter);
        Check.test("promise28Sit", PromiseTest::promise28Sit);
        Check.test("promise29Hall", PromiseTest::promise29Hall);
        Check.test("promise30Hang", PromiseTest::promise30Hang);
        Check.test("promise31Take", PromiseTest::promise31Take);
        Check.test("promise32Leave", PromiseTest::promise32Leave);
        Check.test("promise33Speak", PromiseTest::promise33Speak);
        Check.test("promise34Wash", PromiseTest::promise34Wash);
        Check.test("promise35Valve", PromiseTest::promise35Valve);
        Check.test("promise36Waits", PromiseTest::promise36Waits);
        Check.test("promise36Minute", PromiseTest::promise36Minute);
        Check.test("promise37Set", PromiseTest::promise37Set);
        Check.test("promise38Report", PromiseTest::promise38Report);
        Check.test("promise39ReportByte", PromiseTest::promise39ReportByte);
        Check.test("promise40Undo", PromiseTest::promise40Undo);
        Check.test("promise41Save", PromiseTest::promise41Save);
        Check.test("promise42Restore", PromiseTest::promise42Restore);
        Check.test("fullHouse", PromiseTest::fullHouse);
        Check.end("PromiseTest");
    }

    /** As much of all as the document allows: every row is used up to its end. */
    private static void fullHouse() {
        StringBuilder setup = new StringBuilder("bath 12 16 16 4 6 9 60 30");
        for (int guest = 0; guest < 16; guest++) {
            setup.append(";guest abcde").append((char) ('a' + guest)).append(guest == 0 ? 99 : 90);
        }
        HotSteps x = Check.house(setup.toString());
        due("full: last letter of the last name", x.letter(15, 5), 'p');
        Check.put(x, "abcdep");
        due("full: find", x.find(), 15);
        Check.play(x, "");
        for (int guest = 0; guest < 12; guest++) {
            due("full: enter", x.enter(guest), guest);
            due("full: sit", x.sit(guest, guest < 9 ? 6 : 5), guest < 9 ? 66 : 60);
        }
        due("full: no locker", x.why(15, 0, 1), 212);
        due("full: no room", x.why(11, 16, 1), 400);
        due("full: room on 5", x.highest(11), 5);
        due("full: guests on 6", x.step(6, 0), 9);
        due("full: eldest", x.step(6, 3), 0);
        due("full: eldest on 5", x.step(5, 3), 9);
        due("full: wait", x.waits(1), 0);
        Check.dueDouble("full: meanWet", x.meanWet(), 12.0 / 16.0);
        Check.play(x, "valve 0 9; valve 1 9; valve 2 9; valve 3 7; wait 1;");
        due("full: heat", x.size(10), 56);
        due("full: 92 is above 84", x.step(6, 4), 9);
        due("full: 86 is above 82 and 84", x.step(5, 4), 3);
        due("full: strain", x.guest(0, 4) * 10 + x.guest(1, 4), 23);
        due("full: report", Check.report(x).length(), "6: 5: 4: 3: 2: 1: h: p:-,-,-,-,-,-,-,-,-,-,-,-,12,13,14,15".length() + 12 * 7 - 2);
        due("full: gap", x.gap(), 0);
        due("full: last peg", x.peg(15), 15);
        due("full: last locker", x.locker(11), 11);
        due("full: last guest", x.guest(15, 0), 90);
    }

    private static void due(String call, long got, long want) {
        Check.due(call, got, want);
    }

    /** Refused with this code, counted and not recorded; that nothing else changes is looked at by the tests of the edges. */
    private static void refused(HotSteps x, String call, IntSupplier run, int code) {
        int account = x.account(9);
        int changes = x.size(16);
        due(call, run.getAsInt(), code);
        due("account(9) behind " + call, x.account(9), account + 1);
        due("size(16) behind " + call, x.size(16), changes);
    }

    private static void promise1NewObject() {
        HotSteps x = new HotSteps();
        int[] sizes = {5, 4, 6, 5, 2, 4, 2, 20, 5, 0, 30, 0, 0, 0, 4, 0, 0};
        for (int what = 0; what < sizes.length; what++) {
            due("1: size(" + what + ")", x.size(what), sizes[what]);
        }
        int[] ages = {34, 8, 61, 15, 22};
        String[] names = {"ada", "ben", "cai", "dov", "eli"};
        for (int guest = 0; guest < 5; guest++) {
            due("1: age", x.guest(guest, 0), ages[guest]);
            due("1: place", x.guest(guest, 1), NONE);
            due("1: locker", x.guest(guest, 2), NONE);
            due("1: towel", x.guest(guest, 3), NONE);
            due("1: strain", x.guest(guest, 4), 0);
            due("1: warnings", x.guest(guest, 5), 0);
            due("1: sent", x.guest(guest, 8), NONE);
            for (int i = 0; i < 3; i++) {
                due("1: letter", x.letter(guest, i), names[guest].charAt(i));
            }
            due("1: letter 3", x.letter(guest, 3), NONE);
        }
        for (int towel = 0; towel < 5; towel++) {
            due("1: peg of a towel", x.towel(towel, 1), towel);
            due("1: wet", x.towel(towel, 0), 0);
        }
        for (int what = 0; what <= 9; what++) {
            due("1: account(" + what + ")", x.account(what), 0);
        }
        due("1: opening", x.opening(0) + x.opening(1), 0);
        due("1: errorPosition", x.errorPosition(), NONE);
        due("1: reportByte", x.reportByte(0), NONE);
        due("1: undo", x.undo(), NONE);
        due("1: buffer", x.feed(0, 0, 0, 0, 0), 0);
        HotSteps y = Check.house("bath 4 6 5 2 4 2 20 5; guest ada 34; guest ben 8; guest cai 61; guest dov 15; guest eli 22");
        Check.dueText("1: by the setup", Check.look(x), Check.look(y));
    }

    private static void promise2Feed() {
        HotSteps x = new HotSteps();
        due("2: nothing", x.feed(0, 0, 0, 0, 0), 0);
        due("2: ada", x.feed('a' << 24, 'd' << 8, 0, 0, 'a'), 3);
        due("2: in order", x.find(), 0);
        due("2: bytes above 127", x.feed(0xFF000000, 0x00800000, 0x0000FF00, 0x00000080, -1), 11);
        due("2: not ada any more", x.find(), NONE);
        due("2: an invalid token behind ada", x.play(), -21);
        due("2: empty then", x.feed(0, 0, 0, 0, 0), 0);
        for (int i = 1; i <= 29; i++) {
            due("2: twenty more", x.feed(0x20202020, 0x20202020, 0x20202020, 0x20202020, 0x20202020), 20 * i);
        }
        due("2: 597", x.feed(0x20202020, 0x20202020, 0x20202020, 0x20202020, 0x20000000), 597);
        due("2: 601", x.feed(0, 0, 0, 0, 0x20202020), NONE);
        due("2: 597 still", x.feed(0, 0, 0, 0, 0), 597);
        due("2: zeros do not count", x.feed(0x20000000, 0x200000, 0, 0, 0x20), 600);
        due("2: full, nothing more", x.feed(0, 0, 0, 0, 0), 600);
        due("2: full", x.feed(0, 0, 0x20, 0, 0), NONE);
        due("2: too early", x.load(), -21);
        due("2: at the end", x.errorPosition(), 600);
        feedAtTheEnd();
    }

    /** With 599 bytes in the buffer two bytes of 1 are too many, wherever they stand; one is not. */
    private static void feedAtTheEnd() {
        HotSteps x = new HotSteps();
        for (int i = 1; i <= 30; i++) {
            x.feed(0x01010101, 0x01010101, 0x01010101, 0x01010101, i == 30 ? 0x01010001 : 0x01010101);
        }
        for (int one = 0; one < 20; one++) {
            for (int two = 0; two < one; two++) {
                int[] five = new int[5];
                five[one / 4] |= 1 << 24 - one % 4 * 8;
                five[two / 4] |= 1 << 24 - two % 4 * 8;
                due("2: two too many", x.feed(five[0], five[1], five[2], five[3], five[4]), NONE);
            }
        }
        due("2: 599", x.feed(0, 0, 0, 0, 0), 599);
        due("2: 600", x.feed(0, 0, 0, 0x0100, 0), 600);
    }

    private static void promise3Load() {
        HotSteps x = new HotSteps();
        Check.play(x, "enter ada; valve 0 9; wait 30; sit ada 1; sit ada 6; ");
        x.waits(9);
        x.enter(0);
        x.set(6, 9);
        x.report();
        int first = x.reportByte(0);
        x.save(0);
        due("3: guests", Check.load(x, "bath 12 16 16 4 6 9 60 30" + SIXTEEN), 16);
        int[] sizes = {16, 12, 16, 16, 4, 6, 9, 60, 30, 0, 30, 0, 0, 0, 12, 0, 0};
        for (int what = 0; what < sizes.length; what++) {
            due("3: size(" + what + ")", x.size(what), sizes[what]);
        }
        for (int what = 0; what <= 9; what++) {
            due("3: account(" + what + ")", x.account(what), 0);
        }
        due("3: the report stays", x.reportByte(0), first);
        due("3: nothing to undo", x.undo(), NONE);
        Check.isNotFound("3: restore(0)", () -> x.restore(0));
        due("3: the buffer is empty", x.feed(0, 0, 0, 0, 0), 0);
        due("3: age of p", x.guest(15, 0), 99);
        due("3: without guests", Check.load(x, " bath\n1 1 0 1 1 1 2 0 \n"), 0);
        due("3: without towels", x.size(3), 0);
        due("3: tokens side by side", Check.load(x, "bath01 1 001 1 1 1 02 0;guest guest0;guest bath99"), 2);
        due("3: a guest named guest", x.letter(0, 0), 'g');
        due("3: tall", x.guest(1, 0), 99);
        due("3: six letters", Check.load(x, "bath 1 1 1 1 1 1 2 0;guest abcdef 1;guest abcde 1"), 2);
    }

    private static void promise3LoadErrors() {
        error3("", 1, 0);
        error3("   ", 1, 3);
        error3("Bath 4", 1, 0);
        error3("guest 4", 1, 0);
        error3("bathe 4", 1, 0);
        error3("math 4", 1, 0);
        error3("bats 4", 1, 0);
        error3("bath 0", 2, 5);
        error3("bath 13", 2, 5);
        error3("bath -1", 1, 5);
        error3("bath 99999999999999999999", 2, 5);
        error3("bath 4294967297", 2, 5);
        error3("bath 1 0", 2, 7);
        error3("bath 1 17", 2, 7);
        error3("bath 1 5 6", 2, 9);
        error3("bath 1 1 1 0", 2, 11);
        error3("bath 1 1 1 5", 2, 11);
        error3("bath 1 1 1 1 0", 2, 13);
        error3("bath 1 1 1 1 7", 2, 13);
        error3("bath 1 1 1 1 1 0", 2, 15);
        error3("bath 1 1 1 1 1 10", 2, 15);
        error3("bath 1 1 1 1 1 1 1", 2, 17);
        error3("bath 1 1 1 1 1 1 61", 2, 17);
        error3("bath 1 1 1 1 1 1 2 31", 2, 19);
        String whole = "bath 1 1 1 1 1 1 2 0";
        error3(whole + ";", 1, 21);
        error3(whole + " ; ", 1, 23);
        error3(whole + " 1", 1, 21);
        error3(whole + ")", 1, 20);
        error3(whole + ";guests a 1", 1, 21);
        error3(whole + ";guest", 1, 26);
        error3(whole + ";guest 1", 1, 27);
        error3(whole + ";guest abcdefg 1", 2, 27);
        error3(whole + ";guest a b", 1, 29);
        error3(whole + ";guest a 100", 2, 29);
        error3(whole + ";guest a\t1", 1, 28);
        error3(whole + ";guest \u00e9 1", 1, 27);
        error3(whole + ";guest a 1;guest b 1;guest a 100", 3, 47);
        error3(whole + ";guest a 1;;", 1, 31);
        error3(whole + SIXTEEN + ";guest", 4, 20 + SIXTEEN.length() + 1);
        error3(whole + SIXTEEN + "; guest a 100", 4, 20 + SIXTEEN.length() + 2);
        error3(whole + SIXTEEN + ";guess", 1, 20 + SIXTEEN.length() + 1);
        error3(whole + SIXTEEN + ";", 1, 20 + SIXTEEN.length() + 1);
    }

    /** A setup with an error changes nothing but the buffer and the error position. */
    private static void error3(String setup, int code, int at) {
        HotSteps x = new HotSteps();
        x.enter(0);
        x.save(1);
        String before = Check.look(x);
        due("3: load of '" + setup + "'", Check.load(x, setup), -20 - code);
        due("3: errorPosition of '" + setup + "'", x.errorPosition(), at);
        Check.dueText("3: all behind '" + setup + "'", Check.look(x), before);
        due("3: the buffer behind '" + setup + "'", x.feed(0, 0, 0, 0, 0), 0);
        due("3: restore(1) behind '" + setup + "'", x.restore(1), 0);
    }

    private static void promise4Play() {
        HotSteps x = new HotSteps();
        due("4: empty", x.play(), 0);
        due("4: recorded", x.size(16), 1);
        due("4: each order", Check.play(x, "enter ada;enter ben; sit ada 4; sit ben 2 ;\n valve 0 9; valve 1 5; wait 2; hall ada; hang ada 5;"
            + "take ada 2; speak ada; leave ada; wash;"), 13);
        due("4: recorded as a whole", x.size(16), 2);
        due("4: the buffer", x.feed(0, 0, 0, 0, 0), 0);
        due("4: ada is out", x.guest(0, 1), NONE);
        due("4: towel 2 was washed", x.towel(2, 1), 0);
        due("4: towel 0", x.towel(0, 1), 5);
        due("4: ben", x.guest(1, 1), 2);
        due("4: valves", x.opening(0) * 10 + x.opening(1), 95);
        due("4: time", x.size(9), 2);
        due("4: undone as a whole", x.undo(), 1);
        due("4: undone", x.size(11) + x.size(9) + x.account(0), 0);
        due("4: again", Check.play(x, "again 3 ( wait 1; ); again 0 (wait 60;); again 20 ( ); again 2(wait 2;again 2(wait 3;);wait 4;);"), 11);
        due("4: time behind again", x.size(9), 3 + 2 * (2 + 6 + 4));
        due("4: names of a script", Check.load(x, "bath 2 2 2 1 1 1 2 0;guest again 20;guest enter 20"), 2);
        due("4: a guest named again", Check.play(x, "enter again; enter enter; sit enter 1;"), 3);
        due("4: enter sits", x.guest(1, 1), 1);
        HotSteps y = Check.house("bath 1 16 16 4 6 1 2 0;guest a 99");
        due("4: the largest numbers", Check.play(y, "enter a; hang a 0; take a 15; sit a 6; hall a; hang a 15; valve 3 9; wait 60; again 20 (wash;);"), 28);
        due("4: and the least ones", Check.play(y, "take a 0; sit a 1; hall a; hang a 0; valve 0 0; wait 1; again 0 (wash;);"), 6);
        due("4: leading zeros", Check.play(x, "wait 0000000000000000000000000000001;"), 1);
    }

    private static void promise4PlayEnds() {
        HotSteps x = new HotSteps();
        due("4: refused", Check.play(x, "enter ada; wait 1; enter ada; wait 5;"), 2);
        due("4: what was done stays", x.size(9), 1);
        due("4: account 9", x.account(9), 1);
        due("4: recorded", x.size(16), 1);
        due("4: no such guest", Check.play(x, "wait 1; speak zoe; wait 1;"), 1);
        due("4: no such step", Check.play(x, "sit ada 4; wait 1; sit ada 5; wait 1;"), 2);
        due("4: no such step for one who is out", Check.play(x, "sit ben 6;"), 0);
        due("4: no such peg to hang", Check.play(x, "hall ada; hang ada 6; wait 1;"), 1);
        due("4: no such peg to take", Check.play(x, "take ada 15; wait 1;"), 0);
        due("4: no such valve", Check.play(x, "valve 1 9; valve 2 9; wait 1;"), 1);
        due("4: these are no refusals", x.account(9), 1);
        due("4: refusal within again ends all", Check.play(x, "again 5 ( again 2 ( wait 1; hall ada; ); wait 9; ); wait 9;"), 1);
        due("4: account 9 then", x.account(9), 2);
        due("4: time", x.size(9), 4);
        due("4: each recorded", x.size(16), 8);
        due("4: undone", x.undo(), 7);
        due("4: account 9 stays", x.account(9), 2);
        due("4: 40 orders", Check.play(x, "again 20 ( again 20 ( wait 1; ); ); wait 30;"), 40);
        due("4: 40 minutes", x.size(9), 43);
        due("4: 40 orders and no more", Check.play(x, "again 13 ( wash; valve 0 0; wash; ); wash; enter ada;"), 40);
        due("4: the 41st was not tried", x.account(9), 2);
        due("4: out of time", Check.play(x, "again 20 ( again 20 ( wait 60; ); );"), 40);
        for (int i = 0; i < 3; i++) {
            Check.play(x, "again 20 ( again 20 ( wait 60; ); );");
        }
        due("4: time", x.size(9), 43 + 160 * 60);
        due("4: wait above 9999", Check.play(x, "again 20 ( wait 60; );"), 5);
        due("4: wait is refused", x.account(9), 3);
        due("4: time then", x.size(9), 9943);
    }

    private static void promise4PlayErrors() {
        error4("enter", 1, 5);
        error4("enter ada", 1, 9);
        error4("enter ada ", 1, 10);
        error4("enter 5;", 1, 6);
        error4("fait 5;", 1, 0);
        error4("waiu 5;", 1, 0);
        error4("wai 5;", 1, 0);
        error4("enter abcdefg;", 2, 6);
        error4("Enter ada;", 1, 0);
        error4("ada;", 1, 0);
        error4(";", 1, 0);
        error4("wash;;", 1, 5);
        error4("wash );", 1, 5);
        error4("wash wash;", 1, 5);
        error4("wash;)", 1, 5);
        error4("sit ada;", 1, 7);
        error4("sit ada 0;", 2, 8);
        error4("sit ada 7;", 2, 8);
        error4("hang ada 16;", 2, 9);
        error4("take ada 16;", 2, 9);
        error4("take ada ada;", 1, 9);
        error4("valve 4 0;", 2, 6);
        error4("valve 0 10;", 2, 8);
        error4("valve 0;", 1, 7);
        error4("wait 0;", 2, 5);
        error4("wait 61;", 2, 5);
        error4("wait ada;", 1, 5);
        error4("again 21 ();", 2, 6);
        error4("again ();", 1, 6);
        error4("again 2;", 1, 7);
        error4("again 2 (wash);", 1, 13);
        error4("again 2 (wash;", 1, 14);
        error4("again 2 (wash;)", 1, 15);
        error4("again 2 (wash;;)", 1, 14);
        error4("wash; again 2 ( again 3 ( again 4 ( wash; ); ); );", 4, 34);
        error4("again 2 ( again 3 ( again 4 wash; ); );", 1, 28);
        error4("wait 5; wash; wait 99; &", 2, 19);
        error4("wait 5; & wait 99;", 1, 8);
        String thirty = "wash;".repeat(30);
        error4(thirty + "wash;", 4, 150);
        error4(thirty + "again 99;", 4, 150);
        error4(thirty + "washed;", 1, 150);
        error4(thirty + "5", 1, 150);
        error4("wash;".repeat(28) + "again 1 ( wash; wait 99; );", 4, 156);
        due("4: 30 orders", Check.play(new HotSteps(), thirty), 30);
        due("4: 30 orders with again", Check.play(new HotSteps(), "wash;".repeat(28) + "again 1 ( wash; );"), 29);
    }

    /** A script with an error does nothing, and is not recorded. */
    private static void error4(String script, int code, int at) {
        HotSteps x = new HotSteps();
        x.enter(0);
        String before = Check.look(x);
        due("4: play of '" + script + "'", Check.play(x, script), -20 - code);
        due("4: errorPosition of '" + script + "'", x.errorPosition(), at);
        Check.dueText("4: all behind '" + script + "'", Check.look(x), before);
        due("4: the buffer behind '" + script + "'", x.feed(0, 0, 0, 0, 0), 0);
    }

    private static void promise5ErrorPosition() {
        HotSteps x = new HotSteps();
        due("5: no such call", x.errorPosition(), NONE);
        Check.play(x, "wash; wash");
        due("5: of play", x.errorPosition(), 10);
        x.enter(0);
        x.undo();
        due("5: stays", x.errorPosition(), 10);
        Check.play(x, "wash; enter zoe;");
        due("5: no error by an order that is not done", x.errorPosition(), NONE);
        Check.load(x, "bath 4 4 5");
        due("5: of load", x.errorPosition(), 9);
        due("5: of load, again empty", x.load(), -21);
        due("5: of the latest", x.errorPosition(), 0);
        x.save(0);
        x.restore(0);
        due("5: restore leaves it", x.errorPosition(), 0);
        Check.load(x, "bath 4 4 4 1 1 1 2 0");
        due("5: none", x.errorPosition(), NONE);
    }

    private static void promise6Size() {
        HotSteps x = Check.house("bath 3 7 6 4 5 8 10 4; guest a 50; guest b 50; guest c 50; guest d 50");
        int[] first = {4, 3, 7, 6, 4, 5, 8, 10, 4, 0, 30, 0, 0, 0, 3, 0, 0};
        for (int what = 0; what < first.length; what++) {
            due("6: size(" + what + ")", x.size(what), first[what]);
        }
        x.enter(0);
        x.enter(1);
        x.sit(1, 5);
        x.enter(2);
        x.leave(2);
        x.waits(10);
        x.set(6, 1);
        x.set(7, 60);
        x.set(8, 30);
        int[] then = {4, 3, 7, 6, 4, 5, 1, 60, 30, 10, 0, 2, 1, 1, 1, 1, 8};
        for (int what = 0; what < then.length; what++) {
            due("6: size(" + what + ") then", x.size(what), then[what]);
        }
        due("6: heat in 10 minutes", x.account(8), 10);
        Check.isOutOfRange("size(-1)", () -> x.size(-1));
        Check.isOutOfRange("size(17)", () -> x.size(17));
        Check.isOutOfRange("size(LEAST)", () -> x.size(LEAST));
        Check.isOutOfRange("size(MOST)", () -> x.size(MOST));
        x.set(8, 1);
        x.waits(1);
        due("6: silence is over", x.size(15), 0);
        x.set(8, 2);
        due("6: silence by a longer quiet", x.size(15), 1);
    }

    private static void promise7Guest() {
        HotSteps x = Check.house("bath 3 7 6 4 6 8 2 30; guest a 0; guest b 24; guest c 25; guest d 99; guest e 4; guest f 3");
        int[] bears = {60, 66, 66, 84, 61, 60};
        int[] highest = {1, 5, 6, 6, 1, 1};
        for (int guest = 0; guest < 6; guest++) {
            due("7: bears", x.guest(guest, 6), bears[guest]);
            due("7: highest by age", x.guest(guest, 7), highest[guest]);
        }
        x.enter(3);
        x.enter(1);
        x.sit(1, 5);
        due("7: age", x.guest(3, 0), 99);
        due("7: in the hall", x.guest(3, 1), 0);
        due("7: on a step", x.guest(1, 1), 5);
        due("7: locker", x.guest(1, 2), 1);
        due("7: towel", x.guest(1, 3), 1);
        Check.play(x, HOT);
        due("7: heat", x.size(10), 100);
        due("7: strain", x.guest(1, 4), 5);
        due("7: strain in the hall", x.guest(3, 4), 0);
        x.speak(1);
        due("7: warnings", x.guest(1, 5), 1);
        due("7: sent", x.guest(1, 8), NONE);
        x.speak(1);
        x.speak(1);
        due("7: sent on day 0", x.guest(1, 8), 0);
        due("7: warnings then", x.guest(1, 5), 0);
        due("7: out", x.guest(1, 1), NONE);
        due("7: locker then", x.guest(1, 2), NONE);
        due("7: towel then", x.guest(1, 3), NONE);
        for (int bad : new int[] {-1, 6, LEAST, MOST}) {
            Check.isOutOfRange("guest(" + bad + ", 0)", () -> x.guest(bad, 0));
        }
        for (int bad : new int[] {-1, 9, LEAST, MOST}) {
            Check.isOutOfRange("guest(0, " + bad + ")", () -> x.guest(0, bad));
        }
    }

    private static void promise8Towel() {
        HotSteps x = new HotSteps();
        x.enter(2);
        x.sit(2, 1);
        x.waits(3);
        int[] held = {3, NONE, 2, 0};
        int[] hung = {0, 1, NONE, 0};
        for (int what = 0; what <= 3; what++) {
            due("8: held " + what, x.towel(0, what), held[what]);
            due("8: hung " + what, x.towel(1, what), hung[what]);
        }
        x.hall(2);
        x.leave(2);
        int[] basket = {3, NONE, NONE, 1};
        for (int what = 0; what <= 3; what++) {
            due("8: basket " + what, x.towel(0, what), basket[what]);
        }
        x.waits(5);
        due("8: nothing dries in the basket", x.towel(0, 0), 3);
        for (int bad : new int[] {-1, 5, LEAST, MOST}) {
            Check.isOutOfRange("towel(" + bad + ", 0)", () -> x.towel(bad, 0));
        }
        for (int bad : new int[] {-1, 4, LEAST, MOST}) {
            Check.isOutOfRange("towel(0, " + bad + ")", () -> x.towel(0, bad));
        }
        HotSteps y = Check.house("bath 1 1 0 1 1 1 2 0");
        Check.isOutOfRange("towel(0, 0) without any", () -> y.towel(0, 0));
    }

    private static void promise9Peg() {
        HotSteps x = new HotSteps();
        for (int peg = 0; peg < 5; peg++) {
            due("9: peg at first", x.peg(peg), peg);
        }
        due("9: free", x.peg(5), NONE);
        x.enter(3);
        due("9: free then", x.peg(0), NONE);
        x.hang(3, 5);
        due("9: hung", x.peg(5), 0);
        for (int bad : new int[] {-1, 6, LEAST, MOST}) {
            Check.isOutOfRange("peg(" + bad + ")", () -> x.peg(bad));
        }
    }

    private static void promise10Locker() {
        HotSteps x = new HotSteps();
        due("10: free", x.locker(0), NONE);
        x.enter(3);
        x.enter(1);
        due("10: key", x.locker(0), 3);
        due("10: key of 1", x.locker(1), 1);
        x.leave(3);
        due("10: free then", x.locker(0), NONE);
        due("10: key of 1 stays", x.locker(1), 1);
        for (int bad : new int[] {-1, 4, LEAST, MOST}) {
            Check.isOutOfRange("locker(" + bad + ")", () -> x.locker(bad));
        }
    }

    private static void promise11Opening() {
        HotSteps x = new HotSteps();
        x.valve(1, 7);
        due("11: opening(0)", x.opening(0), 0);
        due("11: opening(1)", x.opening(1), 7);
        for (int bad : new int[] {-1, 2, LEAST, MOST}) {
            Check.isOutOfRange("opening(" + bad + ")", () -> x.opening(bad));
        }
    }

    private static void promise12Step() {
        HotSteps x = Check.house("bath 9 9 9 4 3 9 2 0; guest a 20; guest b 40; guest c 15; guest d 40; guest e 99; guest f 99");
        for (int step = 1; step <= 3; step++) {
            due("12: nobody", x.step(step, 0), 0);
            due("12: temperature", x.step(step, 1), 30 + 6 * step);
            due("12: age", x.step(step, 2), 5 * step - 5);
            due("12: no eldest", x.step(step, 3), NONE);
            due("12: nobody suffers", x.step(step, 4), 0);
        }
        Check.play(x, "enter a; enter b; enter c; enter d; enter e; sit a 3; sit b 3; sit c 3; sit d 3; sit e 2;");
        due("12: four", x.step(3, 0), 4);
        due("12: eldest with the lowest number", x.step(3, 3), 1);
        due("12: eldest alone", x.step(2, 3), 4);
        Check.play(x, "valve 0 9; valve 1 9; wait 1;");
        due("12: temperature then", x.step(3, 1), 62);
        due("12: nobody suffers yet", x.step(3, 4), 0);
        Check.play(x, "valve 0 9; valve 1 1; wait 1;");
        due("12: temperature 67", x.step(3, 1), 67);
        // a bears 65, b and d 70, c 63
        due("12: above what they bear", x.step(3, 4), 2);
        Check.play(x, "valve 0 6; valve 1 2; wait 1;");
        due("12: temperature 70", x.step(3, 1), 70);
        due("12: 70 is not above 70", x.step(3, 4), 2);
        for (int bad : new int[] {0, -1, 4, LEAST, MOST}) {
            Check.isOutOfRange("step(" + bad + ", 0)", () -> x.step(bad, 0));
        }
        for (int bad : new int[] {-1, 5, LEAST, MOST}) {
            Check.isOutOfRange("step(1, " + bad + ")", () -> x.step(1, bad));
        }
    }

    /** Guest 0 wets its towel so many minutes, and hangs it on a peg. */
    private static void wet(HotSteps x, int minutes, int peg) {
        x.sit(0, 1);
        x.waits(minutes);
        x.hall(0);
        x.hang(0, peg);
    }

    private static void promise13Driest() {
        HotSteps x = Check.house("bath 5 4 3 1 1 5 60 0; guest a 50; guest b 50; guest c 50");
        due("13: lowest peg", x.driest(), 0);
        x.enter(0);
        due("13: next", x.driest(), 1);
        wet(x, 3, 3);
        x.take(0, 1);
        wet(x, 1, 0);
        // pegs: towel 1 wet 1, none, towel 2 wet 0, towel 0 wet 3 less 1
        due("13: wet of towel 0", x.towel(0, 0), 2);
        due("13: least wet", x.driest(), 2);
        x.take(0, 2);
        due("13: less wet", x.driest(), 1);
        x.enter(1);
        due("13: 2 is dry enough", x.driest(), 0);
        x.hang(0, 2);
        x.take(0, 3);
        wet(x, 1, 3);
        due("13: dry one is first", x.driest(), 2);
        x.enter(2);
        due("13: 3 is too wet", x.driest(), NONE);
        due("13: none", Check.house("bath 1 1 0 1 1 1 2 0").driest(), NONE);
        HotSteps y = new HotSteps();
        Check.play(y, "enter ada; enter ben; hang ben 5; hang ada 1;");
        due("13: of several that on the lowest peg", y.driest(), 0);
        due("13: though there is no locker", Check.play(y, "enter cai; enter dov;"), 2);
        due("13: by towels alone", y.driest(), 3);
    }

    private static void promise14Letter() {
        HotSteps x = Check.house("bath 1 1 1 1 1 1 2 0; guest abcxyz 1; guest q 1");
        String name = "abcxyz";
        for (int i = 0; i < 6; i++) {
            due("14: letter", x.letter(0, i), name.charAt(i));
        }
        due("14: behind six", x.letter(0, 6), NONE);
        due("14: below", x.letter(0, -1), NONE);
        due("14: far", x.letter(0, MOST), NONE);
        due("14: far below", x.letter(0, LEAST), NONE);
        due("14: q", x.letter(1, 0), 'q');
        due("14: behind q", x.letter(1, 1), NONE);
        due("14: q below", x.letter(1, -1), NONE);
        for (int bad : new int[] {-1, 2, LEAST, MOST}) {
            Check.isOutOfRange("letter(" + bad + ", 0)", () -> x.letter(bad, 0));
        }
    }

    private static void promise15Find() {
        HotSteps x = Check.house("bath 1 1 1 1 1 1 2 0; guest abc 1; guest ab 1; guest abcdef 1");
        due("15: empty", x.find(), NONE);
        Check.put(x, "a");
        due("15: a", x.find(), NONE);
        Check.put(x, "b");
        due("15: ab", x.find(), 1);
        due("15: it stays", x.find(), 1);
        Check.put(x, "c");
        due("15: abc", x.find(), 0);
        Check.put(x, "def");
        due("15: abcdef", x.find(), 2);
        Check.put(x, " ");
        due("15: the whole buffer", x.find(), NONE);
        due("15: its length", x.feed(0, 0, 0, 0, 0), 7);
    }

    private static void promise16WhyEnterAndLeave() {
        HotSteps x = Check.house("bath 2 4 3 1 2 2 20 30; guest a 50; guest b 50; guest c 50; guest d 50");
        why(x, 0, 0, 0, 0);
        why(x, 0, 1, 5, 0);
        x.enter(0);
        why(x, 0, 0, 1, 0);
        why(x, 0, 1, 0, 0);
        x.sit(0, 2);
        why(x, 0, 0, 1, 0);
        why(x, 0, 1, 9, 502);
        x.waits(20);
        x.enter(2);
        why(x, 3, 0, 3, 202);
        x.speak(0);
        x.speak(0);
        x.speak(0);
        why(x, 0, 0, 2, 100 + 580);
        x.waits(19);
        why(x, 0, 0, 2, 100 + 561);
        x.enter(1);
        why(x, 0, 0, 2, 661);
        Check.play(x, "again 10 ( wait 56; );");
        due("16: time", x.size(9), 599);
        why(x, 0, 0, 2, 101);
        x.waits(1);
        why(x, 0, 0, 3, 202);
        x.waits(3);
        Check.play(x, "speak b; speak b; speak b;");
        due("16: sent on day 1", x.guest(1, 8), 1);
        why(x, 1, 0, 2, 100 + 597);
        x.leave(2);
        due("16: all in the basket", x.size(13), 3);
        why(x, 0, 0, 4, 0);
        x.wash();
        why(x, 0, 0, 0, 0);
    }

    private static void promise16WhySit() {
        HotSteps x = Check.house("bath 5 6 5 1 4 2 20 30; guest a 50; guest b 9; guest c 50; guest d 50; guest e 10");
        why(x, 0, 11, 5, 0);
        why(x, 1, 14, 5, 0);
        Check.play(x, "enter a; enter b; enter c; enter d; enter e; hang a 5;");
        why(x, 0, 14, 6, 0);
        Check.play(x, "hang b 0;");
        why(x, 1, 14, 6, 0);
        Check.play(x, "take a 0; take b 5;");
        why(x, 1, 11, 0, 0);
        why(x, 1, 12, 0, 0);
        why(x, 1, 13, 7, 301);
        why(x, 1, 14, 7, 306);
        why(x, 4, 13, 0, 0);
        why(x, 4, 14, 7, 305);
        Check.play(x, "sit d 3; sit c 3;");
        why(x, 0, 13, 8, 402);
        why(x, 1, 13, 7, 301);
        why(x, 2, 13, 0, 0);
        why(x, 3, 13, 0, 0);
        why(x, 2, 14, 0, 0);
        x.set(6, 1);
        why(x, 3, 13, 8, 402);
        // c has the lowest number there, but does not count itself
        why(x, 2, 13, 8, 403);
        x.hall(2);
        why(x, 3, 13, 0, 0);
        why(x, 2, 13, 8, 403);
    }

    /** Those on a step, and others, ask for it when ROOM was made smaller than the number of those there. */
    private static void promise16CauseBesideItself() {
        HotSteps x = Check.house("bath 12 16 16 1 6 4 60 0; guest a 90; guest b 90; guest c 90; guest d 90; guest e 90; guest f 90; guest g 90");
        for (int guest = 0; guest < 7; guest++) {
            x.enter(guest);
        }
        for (int step = 1; step <= 6; step++) {
            x.set(6, 4);
            for (int guest = 2; guest < 6; guest++) {
                x.sit(guest, step);
            }
            due("16: all have room", x.why(2, 10 + step, 0), 0);
            for (int room = 1; room <= 3; room++) {
                x.set(6, room);
                why(x, 2, 10 + step, 8, 403);
                for (int guest = 3; guest < 6; guest++) {
                    why(x, guest, 10 + step, 8, 402);
                }
                why(x, 0, 10 + step, 8, 402);
                why(x, 6, 10 + step, 8, 402);
                due("16: refused", x.sit(2, step), -2);
            }
        }
        HotSteps y = new HotSteps();
        y.enter(0);
        y.enter(1);
        y.sit(0, 1);
        y.sit(1, 1);
        y.set(6, 1);
        why(y, 0, 11, 8, 401);
        why(y, 1, 11, 8, 400);
        y.hall(1);
        why(y, 0, 11, 0, 0);
        why(y, 1, 11, 8, 400);
    }

    private static void promise16WhyHangAndTake() {
        HotSteps x = new HotSteps();
        why(x, 0, 20, 5, 0);
        why(x, 0, 45, 5, 0);
        x.enter(0);
        why(x, 0, 20, 0, 0);
        why(x, 0, 21, 10, 601);
        why(x, 0, 24, 10, 604);
        why(x, 0, 25, 0, 0);
        why(x, 0, 40, 11, 0);
        why(x, 0, 41, 11, 0);
        x.sit(0, 3);
        why(x, 0, 20, 9, 503);
        why(x, 0, 21, 9, 503);
        why(x, 0, 41, 9, 503);
        x.hall(0);
        x.hang(0, 5);
        why(x, 0, 20, 6, 0);
        why(x, 0, 25, 6, 0);
        why(x, 0, 40, 12, 0);
        why(x, 0, 41, 0, 0);
        why(x, 0, 45, 0, 0);
        x.enter(1);
        why(x, 1, 25, 10, 600);
    }

    private static void promise16WhyRange() {
        HotSteps x = new HotSteps();
        for (int bad : new int[] {-1, 5, LEAST, MOST}) {
            Check.isOutOfRange("why(" + bad + ", 0, 0)", () -> x.why(bad, 0, 0));
        }
        for (int bad : new int[] {-1, 2, 9, 10, 15, 16, 19, 26, 35, 39, 46, 55, 56, LEAST, LEAST + 12, LEAST + 41, MOST}) {
            Check.isOutOfRange("why(0, " + bad + ", 0)", () -> x.why(0, bad, 0));
        }
        for (int bad : new int[] {-1, 2, LEAST, MOST}) {
            Check.isOutOfRange("why(0, 0, " + bad + ")", () -> x.why(0, 0, bad));
        }
        HotSteps y = Check.house("bath 1 16 1 1 6 1 2 0; guest a 1");
        due("16: last step", y.why(0, 16, 0), 5);
        due("16: last peg to hang", y.why(0, 35, 0), 5);
        due("16: last peg to take", y.why(0, 55, 0), 5);
        Check.isOutOfRange("why(0, 36, 0)", () -> y.why(0, 36, 0));
        Check.isOutOfRange("why(0, 17, 0)", () -> y.why(0, 17, 0));
    }

    private static void why(HotSteps x, int guest, int deed, int reason, int cause) {
        due("16: why(" + guest + ", " + deed + ", 0)", x.why(guest, deed, 0), reason);
        due("16: why(" + guest + ", " + deed + ", 1)", x.why(guest, deed, 1), cause);
    }

    private static void promise17Highest() {
        HotSteps x = Check.house("bath 5 6 5 1 4 1 20 30; guest a 50; guest b 9; guest c 50");
        due("17: out", x.highest(0), 0);
        Check.play(x, "enter a; enter b; enter c;");
        due("17: all steps", x.highest(0), 4);
        due("17: by age", x.highest(1), 2);
        x.sit(0, 4);
        due("17: its own step", x.highest(0), 4);
        due("17: one is full", x.highest(2), 3);
        x.sit(2, 2);
        due("17: two is full", x.highest(1), 1);
        x.hall(0);
        x.hang(0, 5);
        due("17: without a towel", x.highest(0), 0);
        x.sit(2, 1);
        due("17: b", x.highest(1), 2);
        for (int bad : new int[] {-1, 3, LEAST, MOST}) {
            Check.isOutOfRange("highest(" + bad + ")", () -> x.highest(bad));
        }
    }

    private static void promise18Account() {
        HotSteps x = Check.house("bath 5 6 5 4 4 2 3 30; guest a 0; guest b 0; guest c 99");
        accounts(x, 0, 0, 0, 0, 0, 0, 0, 0, 0, 0);
        Check.play(x, "enter a; enter b; enter c; leave c; enter c; sit a 1; sit b 1; " + HOT);
        // the heat is 62, 92 and 100: a and b on the 1st step bear 60, so their strain is 2 and then 10
        accounts(x, 4, 1, 0, 0, 2, 0, 4, 1, 3, 0);
        due("18: refused", x.sit(0, 2), -2);
        due("18: refused", x.hall(0), -3);
        due("18: wash", x.wash(), 1);
        accounts(x, 4, 1, 0, 0, 2, 1, 4, 1, 3, 2);
        Check.play(x, "speak a; speak b; speak a; speak b; speak a; speak b; speak c; wash; enter a;");
        accounts(x, 4, 3, 2, 7, 2, 3, 4, 1, 3, 3);
        due("18: an exception is no refusal", refusedByRange(x), 1);
        accounts(x, 4, 3, 2, 7, 2, 3, 4, 1, 3, 3);
        due("18: speak of one who is out", x.speak(0), -4);
        accounts(x, 4, 3, 2, 7, 2, 3, 4, 1, 3, 4);
        Check.play(x, "enter enter;");
        Check.play(x, "enter zoe;");
        accounts(x, 4, 3, 2, 7, 2, 3, 4, 1, 3, 4);
        x.waits(2);
        x.undo();
        accounts(x, 4, 3, 2, 7, 2, 3, 4, 1, 3, 4);
        x.waits(3);
        accounts(x, 4, 3, 2, 7, 2, 3, 4, 2, 6, 4);
        for (int bad : new int[] {-1, 10, LEAST, MOST}) {
            Check.isOutOfRange("account(" + bad + ")", () -> x.account(bad));
        }
    }

    private static int refusedByRange(HotSteps x) {
        try {
            return x.enter(99);
        } catch (IllegalArgumentException e) {
            return 1;
        }
    }

    private static void accounts(HotSteps x, int... want) {
        for (int what = 0; what <= 9; what++) {
            due("18: account(" + what + ")", x.account(what), want[what]);
        }
    }

    private static void promise19Gap() {
        HotSteps x = new HotSteps();
        due("19: at first", x.gap(), 0);
        String[] scripts = {"enter ada; enter ben; enter cai; enter dov;", "hang ada 5; sit ben 2;", "wait 20; speak ben; speak ben; speak ben;",
            "leave ada; leave cai;", "wash; enter ada; enter eli;", "valve 0 9; valve 1 9; sit eli 4; sit dov 4; wait 30;"};
        for (String script : scripts) {
            Check.play(x, script);
            due("19: behind " + script, x.gap(), 0);
            due("19: it was played", x.account(9), 0);
        }
    }

    private static void promise20MeanWet() {
        HotSteps x = new HotSteps();
        Check.dueDouble("20: dry", x.meanWet(), 0.0);
        x.enter(0);
        x.sit(0, 1);
        x.waits(1);
        Check.dueDouble("20: 1 of 5", x.meanWet(), 1.0 / 5.0);
        x.waits(2);
        Check.dueDouble("20: 3 of 5", x.meanWet(), 3.0 / 5.0);
        HotSteps z = Check.house("bath 1 1 1 1 1 1 2 0; guest a 9");
        Check.play(z, "enter a; sit a 1; wait 2;");
        Check.dueDouble("20: of one", z.meanWet(), 2.0);
        Check.dueDouble("20: without any", Check.house("bath 1 1 0 1 1 1 2 0").meanWet(), 0.0);
        HotSteps y = Check.house("bath 3 3 3 1 1 3 2 0; guest a 9; guest b 9");
        Check.play(y, "enter a; enter b; sit a 1; wait 1; sit b 1; wait 1; hall a; leave a;");
        Check.dueDouble("20: in the basket, too", y.meanWet(), 1.0);
        Check.play(y, "wait 1;");
        Check.dueDouble("20: a third", y.meanWet(), 4.0 / 3.0);
    }

    private static void promise21HeatBits() {
        boolean[] seen = new boolean[101];
        for (int first = 0; first <= 9; first++) {
            HotSteps x = Check.house("bath 1 1 1 4 1 1 2 0");
            x.valve(0, first);
            for (int minute = 0; minute < 45; minute++) {
                int heat = x.size(10);
                seen[heat] = true;
                due("21: heatBits at " + heat, x.heatBits(), Float.floatToRawIntBits((float) heat / 100f));
                x.valve(1, minute % 10);
                x.valve(2, minute / 5);
                x.waits(1);
            }
        }
        int count = 0;
        for (boolean heat : seen) {
            count += heat ? 1 : 0;
        }
        due("21: 100 was seen", seen[100] ? 1 : 0, 1);
        due("21: many were seen", count > 60 ? 1 : 0, 1);
        HotSteps x = new HotSteps();
        due("21: 30", x.heatBits(), 0x3e99999a);
        Check.play(x, "wait 40;");
        due("21: 0", x.heatBits(), 0);
        HotSteps y = Check.house("bath 1 1 1 4 1 1 2 0");
        Check.play(y, HOT);
        due("21: 100", y.heatBits(), 0x3f800000);
    }

    private static void promise22HeatIn() {
        HotSteps x = new HotSteps();
        int[] cooling = {30, 26, 22, 18, 15, 12, 9, 6, 3, 0, 0};
        for (int minutes = 0; minutes < cooling.length; minutes++) {
            due("22: heatIn(" + minutes + ")", x.heatIn(minutes), cooling[minutes]);
        }
        due("22: heatIn(200)", x.heatIn(200), 0);
        due("22: nothing changed", x.size(9), 0);
        due("22: nothing to undo", x.size(16), 0);
        x.valve(0, 9);
        int[] warming = {30, 35, 40, 44, 48, 52, 56};
        for (int minutes = 0; minutes < warming.length; minutes++) {
            due("22: warming, heatIn(" + minutes + ")", x.heatIn(minutes), warming[minutes]);
        }
        x.valve(1, 9);
        due("22: at most 100", x.heatIn(200), 100);
        Check.isOutOfRange("heatIn(-1)", () -> x.heatIn(-1));
        Check.isOutOfRange("heatIn(201)", () -> x.heatIn(201));
        Check.isOutOfRange("heatIn(LEAST)", () -> x.heatIn(LEAST));
        Check.isOutOfRange("heatIn(MOST)", () -> x.heatIn(MOST));
        Check.timeTo(x, 9999);
        x.valve(1, 0);
        x.valve(0, 0);
        due("22: beyond 9999", x.heatIn(60) < x.size(10) ? 1 : 0, 1);
    }

    private static void promise23DownIn() {
        HotSteps x = Check.house("bath 5 6 5 4 4 2 3 30; guest a 50; guest b 9; guest c 50");
        due("23: out", x.downIn(0), 0);
        Check.play(x, "enter a; enter b; enter c;");
        due("23: hall", x.downIn(0), 0);
        x.sit(0, 4);
        due("23: never", x.downIn(0), NONE);
        Check.play(x, "valve 0 9;");
        // heat 35 40 44 48 52 56 60 63 66 69 72 75 and then 78: temperature 24 above that, a bears 72:
        // 60 is not above it at 44; 48: 72 no; 52: 76, 1; 56: 80, 2 more; 60: 84, 3 more; 63: 87, 4 more
        due("23: a", x.downIn(0), 8);
        x.waits(7);
        due("23: strain is 6", x.guest(0, 4), 6);
        due("23: one more minute", x.downIn(0), 1);
        due("23: it did so", x.waits(1), 1);
        due("23: on step 3", x.guest(0, 1), 3);
        due("23: strain is 5", x.guest(0, 4), 5);
        int then = x.downIn(0);
        due("23: the next time, none before", x.waits(then - 1), 0);
        due("23: the next time", x.waits(1), 1);
        for (int bad : new int[] {-1, 3, LEAST, MOST}) {
            Check.isOutOfRange("downIn(" + bad + ")", () -> x.downIn(bad));
        }
        HotSteps y = Check.house("bath 5 6 5 4 1 2 60 0; guest a 0");
        Check.play(y, "enter a; sit a 1; " + HOT);
        Check.timeTo(y, 9999);
        y.sit(0, 1);
        due("23: beyond 9999", y.downIn(0) > 0 ? 1 : 0, 1);
    }

    private static void promise24DryIn() {
        HotSteps x = Check.house("bath 5 6 5 4 4 2 60 0; guest a 50; guest b 9");
        due("24: dry", x.dryIn(0), 0);
        x.enter(0);
        due("24: dry with a guest", x.dryIn(0), 0);
        x.sit(0, 1);
        x.waits(4);
        due("24: on a step", x.dryIn(0), NONE);
        x.hall(0);
        due("24: in the hall", x.dryIn(0), NONE);
        x.hang(0, 5);
        due("24: on a peg", x.dryIn(0), 4);
        x.waits(1);
        due("24: less", x.dryIn(0), 3);
        Check.play(x, "valve 0 9; valve 1 9; valve 2 9; valve 3 9;");
        // heat is 12: 45, then 76 and more
        due("24: it becomes too hot", x.dryIn(0), NONE);
        Check.play(x, "wait 1; valve 0 0; valve 1 0; valve 2 0; valve 3 9;");
        due("24: heat", x.size(10), 45);
        due("24: below 60 for two minutes", x.dryIn(0), 2);
        x.take(0, 5);
        x.leave(0);
        due("24: in the basket", x.dryIn(0), NONE);
        x.wash();
        due("24: washed", x.dryIn(0), 0);
        for (int bad : new int[] {-1, 5, LEAST, MOST}) {
            Check.isOutOfRange("dryIn(" + bad + ")", () -> x.dryIn(bad));
        }
        HotSteps y = Check.house("bath 5 6 5 4 4 2 60 0; guest a 50");
        due("24: it hangs", Check.play(y, "enter a; sit a 1; wait 9; hall a; " + HOT + "wait 1; hang a 5;"), 11);
        due("24: in the heat", y.dryIn(0), NONE);
        Check.play(y, "valve 0 0; valve 1 0; valve 2 0; valve 3 0;");
        // 100, 92, 85, 78, 72, 66, 60, 54: dries from the 7th minute on
        due("24: heat in 6", y.heatIn(6), 60);
        due("24: once it is cooler", y.dryIn(0), 6 + 9);
        Check.timeTo(x, 9999);
        due("24: beyond 9999", x.dryIn(1), 0);
    }

    private static void promise25SilenceIn() {
        HotSteps x = new HotSteps();
        due("25: first gong", x.silenceIn(), 20);
        x.waits(19);
        due("25: next minute", x.silenceIn(), 1);
        x.waits(1);
        due("25: now", x.silenceIn(), 0);
        x.waits(4);
        due("25: still", x.silenceIn(), 0);
        x.waits(1);
        due("25: over", x.silenceIn(), 15);
        x.set(7, 7);
        due("25: another gong", x.silenceIn(), 3);
        x.set(8, 0);
        due("25: never", x.silenceIn(), NONE);
        x.set(8, 30);
        due("25: again now", x.silenceIn(), 0);
        x.set(8, 1);
        due("25: one minute", x.silenceIn(), 3);
        x.set(8, 5);
        x.set(7, 60);
        due("25: 60", x.silenceIn(), 35);
        Check.timeTo(x, 9999);
        due("25: beyond 9999", x.silenceIn(), 21);
    }

    private static void promise26IfValve() {
        HotSteps x = new HotSteps();
        x.valve(0, 5);
        x.valve(1, 2);
        due("26: as it is", x.ifValve(0, 5), 33);
        due("26: shut", x.ifValve(0, 0), 28);
        due("26: open", x.ifValve(0, 9), 37);
        due("26: the other", x.ifValve(1, 9), 40);
        due("26: nothing changed", x.opening(0) * 10 + x.opening(1), 52);
        due("26: nothing recorded", x.size(16), 2);
        Check.play(x, "valve 0 0; valve 1 0; wait 50;");
        due("26: at least 0", x.ifValve(0, 2), 0);
        due("26: at least 0, above", x.ifValve(0, 4), 1);
        HotSteps y = Check.house("bath 1 1 1 4 1 1 2 0");
        Check.play(y, HOT);
        due("26: at most 100", y.ifValve(3, 9), 100);
        due("26: at most 100, still", y.ifValve(3, 0), 100);
        for (int bad : new int[] {-1, 2, LEAST, MOST}) {
            Check.isOutOfRange("ifValve(" + bad + ", 0)", () -> x.ifValve(bad, 0));
        }
        for (int bad : new int[] {-1, 10, LEAST, MOST}) {
            Check.isOutOfRange("ifValve(0, " + bad + ")", () -> x.ifValve(0, bad));
        }
    }

    private static void promise27Enter() {
        HotSteps x = Check.house("bath 2 4 3 1 2 2 5 30; guest a 50; guest b 50; guest c 50");
        due("27: locker 0", x.enter(2), 0);
        due("27: in the hall", x.guest(2, 1), 0);
        due("27: its towel", x.guest(2, 3), 0);
        due("27: its locker", x.guest(2, 2), 0);
        due("27: the peg is free", x.peg(0), NONE);
        due("27: the towel's guest", x.towel(0, 2), 2);
        due("27: the towel's peg", x.towel(0, 1), NONE);
        due("27: recorded", x.size(16), 1);
        due("27: locker 1", x.enter(1), 1);
        refused(x, "27: it is in", () -> x.enter(1), -2);
        refused(x, "27: no locker", () -> x.enter(0), -2);
        x.leave(2);
        due("27: lowest free locker", x.enter(0), 0);
        due("27: towel on the lowest peg", x.guest(0, 3), 2);
        due("27: account", x.account(0), 3);
        x.leave(1);
        due("27: no towel", x.size(13), 2);
        refused(x, "27: no towel", () -> x.enter(1), -2);
        x.wash();
        due("27: with a towel", x.enter(1), 1);
        x.waits(5);
        x.speak(1);
        x.speak(1);
        x.speak(1);
        refused(x, "27: sent", () -> x.enter(1), -2);
        for (int bad : new int[] {-1, 3, LEAST, MOST}) {
            Check.isOutOfRange("enter(" + bad + ")", () -> x.enter(bad));
        }
        HotSteps y = Check.house("bath 2 4 3 4 1 2 5 30; guest a 0");
        Check.play(y, "enter a; sit a 1; " + HOT);
        due("27: strain", y.guest(0, 4) > 0 ? 1 : 0, 1);
        Check.play(y, "leave a; enter a;");
        due("27: strain is 0", y.guest(0, 4), 0);
        due("27: it is in", y.guest(0, 1), 0);
    }

    private static void promise28Sit() {
        HotSteps x = Check.house("bath 5 6 5 4 4 2 60 0; guest a 15; guest b 14; guest c 50; guest d 50");
        refused(x, "28: out", () -> x.sit(0, 1), -2);
        Check.play(x, "enter a; enter b; enter c; enter d;");
        due("28: temperature", x.sit(0, 4), 54);
        due("28: there", x.guest(0, 1), 4);
        due("28: there again", x.sit(0, 4), 54);
        due("28: recorded", x.size(16), 3);
        refused(x, "28: too young", () -> x.sit(1, 4), -2);
        due("28: lower", x.sit(1, 3), 48);
        due("28: from step to step", x.sit(1, 2), 42);
        due("28: second", x.sit(2, 4), 54);
        refused(x, "28: no room", () -> x.sit(3, 4), -2);
        due("28: it does not count itself", x.sit(2, 4), 54);
        x.hang(3, 5);
        refused(x, "28: no towel", () -> x.sit(3, 1), -2);
        Check.play(x, "valve 0 9; wait 1;");
        due("28: warmer", x.sit(0, 1), 41);
        for (int bad : new int[] {-1, 4, LEAST, MOST}) {
            Check.isOutOfRange("sit(" + bad + ", 1)", () -> x.sit(bad, 1));
        }
        for (int bad : new int[] {-1, 0, 5, LEAST, MOST}) {
            Check.isOutOfRange("sit(0, " + bad + ")", () -> x.sit(0, bad));
        }
    }

    private static void promise29Hall() {
        HotSteps x = new HotSteps();
        refused(x, "29: out", () -> x.hall(0), -3);
        x.enter(0);
        refused(x, "29: in the hall", () -> x.hall(0), -3);
        x.sit(0, 3);
        due("29: its step", x.hall(0), 3);
        due("29: there", x.guest(0, 1), 0);
        due("29: it keeps its towel", x.guest(0, 3), 0);
        due("29: recorded", x.size(16), 3);
        for (int bad : new int[] {-1, 5, LEAST, MOST}) {
            Check.isOutOfRange("hall(" + bad + ")", () -> x.hall(bad));
        }
    }

    private static void promise30Hang() {
        HotSteps x = new HotSteps();
        refused(x, "30: out", () -> x.hang(0, 5), -2);
        x.enter(0);
        x.enter(1);
        refused(x, "30: not free", () -> x.hang(1, 2), -2);
        due("30: the towel", x.hang(1, 5), 1);
        due("30: on the peg", x.peg(5), 1);
        due("30: its peg", x.towel(1, 1), 5);
        due("30: nobody's", x.towel(1, 2), NONE);
        due("30: without", x.guest(1, 3), NONE);
        refused(x, "30: no towel", () -> x.hang(1, 0), -2);
        x.sit(0, 1);
        refused(x, "30: on a step", () -> x.hang(0, 0), -2);
        due("30: recorded", x.size(16), 4);
        for (int bad : new int[] {-1, 5, LEAST, MOST}) {
            Check.isOutOfRange("hang(" + bad + ", 0)", () -> x.hang(bad, 0));
        }
        for (int bad : new int[] {-1, 6, LEAST, MOST}) {
            Check.isOutOfRange("hang(0, " + bad + ")", () -> x.hang(0, bad));
        }
    }

    private static void promise31Take() {
        HotSteps x = new HotSteps();
        refused(x, "31: out", () -> x.take(0, 1), -2);
        x.enter(0);
        refused(x, "31: has one", () -> x.take(0, 1), -2);
        x.hang(0, 5);
        refused(x, "31: free", () -> x.take(0, 0), -2);
        due("31: the towel", x.take(0, 3), 3);
        due("31: with the guest", x.guest(0, 3), 3);
        due("31: the towel's guest", x.towel(3, 2), 0);
        due("31: the towel's peg", x.towel(3, 1), NONE);
        due("31: the peg is free", x.peg(3), NONE);
        due("31: recorded", x.size(16), 3);
        Check.play(x, "hang ada 3; wait 1;");
        due("31: a wet one, too", Check.play(x, "take ada 5; sit ada 1; wait 9; hall ada; hang ada 5; take ada 5;"), 6);
        for (int bad : new int[] {-1, 5, LEAST, MOST}) {
            Check.isOutOfRange("take(" + bad + ", 0)", () -> x.take(bad, 0));
        }
        for (int bad : new int[] {-1, 6, LEAST, MOST}) {
            Check.isOutOfRange("take(0, " + bad + ")", () -> x.take(0, bad));
        }
    }

    private static void promise32Leave() {
        HotSteps x = new HotSteps();
        refused(x, "32: out", () -> x.leave(0), -2);
        x.enter(0);
        x.enter(1);
        x.sit(1, 1);
        refused(x, "32: on a step", () -> x.leave(1), -2);
        x.waits(2);
        x.hall(1);
        due("32: its locker", x.leave(1), 1);
        due("32: out", x.guest(1, 1), NONE);
        due("32: locker", x.guest(1, 2), NONE);
        due("32: free", x.locker(1), NONE);
        due("32: towel", x.guest(1, 3), NONE);
        due("32: basket", x.towel(1, 3), 1);
        due("32: wet", x.towel(1, 0), 2);
        due("32: nobody's", x.towel(1, 2), NONE);
        x.hang(0, 5);
        due("32: without a towel", x.leave(0), 0);
        due("32: one in the basket", x.size(13), 1);
        due("32: account", x.account(1), 2);
        for (int bad : new int[] {-1, 5, LEAST, MOST}) {
            Check.isOutOfRange("leave(" + bad + ")", () -> x.leave(bad));
        }
    }

    private static void promise33Speak() {
        HotSteps x = new HotSteps();
        refused(x, "33: out", () -> x.speak(0), -4);
        x.enter(0);
        x.enter(1);
        due("33: no gong yet", x.speak(0), 0);
        due("33: recorded", x.size(16), 3);
        x.waits(20);
        due("33: first", x.speak(0), 1);
        x.waits(4);
        due("33: second", x.speak(0), 2);
        x.waits(1);
        due("33: silence is over", x.speak(0), 2);
        x.sit(0, 4);
        x.leave(1);
        x.enter(1);
        x.waits(15);
        due("33: another one", x.speak(1), 1);
        due("33: third", x.speak(0), 3);
        due("33: sent from the step", x.guest(0, 1), NONE);
        due("33: warnings", x.guest(0, 5), 0);
        due("33: day", x.guest(0, 8), 0);
        due("33: locker", x.locker(0), NONE);
        due("33: towel", x.towel(0, 3), 1);
        due("33: accounts", x.account(1) * 100 + x.account(2) * 10 + x.account(3), 214);
        x.leave(1);
        x.enter(1);
        due("33: warnings stay", x.guest(1, 5), 1);
        Check.play(x, "again 9 ( wait 60; );");
        refused(x, "33: on this day", () -> x.enter(0), -2);
        x.waits(20);
        due("33: on the next day", x.enter(0), 1);
        due("33: the day stays", x.guest(0, 8), 0);
        x.speak(0);
        x.speak(0);
        x.hang(0, 5);
        due("33: without a towel", x.speak(0), 3);
        due("33: day 1", x.guest(0, 8), 1);
        due("33: sent twice", x.account(2), 2);
        for (int bad : new int[] {-1, 5, LEAST, MOST}) {
            Check.isOutOfRange("speak(" + bad + ")", () -> x.speak(bad));
        }
    }

    private static void promise34Wash() {
        HotSteps x = new HotSteps();
        due("34: nothing", x.wash(), 0);
        due("34: recorded", x.size(16), 1);
        Check.play(x, "enter ada; enter ben; enter cai; sit cai 1; sit ben 1; wait 3; hall cai; hall ben; leave cai; leave ben; hang ada 1;");
        due("34: pegs", x.peg(0) * 10 + x.peg(1), -10);
        due("34: two", x.wash(), 2);
        due("34: towel 1", x.towel(1, 1), 0);
        due("34: towel 2", x.towel(2, 1), 2);
        due("34: dry", x.towel(1, 0) + x.towel(2, 0), 0);
        due("34: out of the basket", x.towel(1, 3) + x.size(13), 0);
        due("34: on the peg", x.peg(0), 1);
        due("34: account", x.account(5), 2);
        due("34: nothing more", x.wash(), 0);
    }

    private static void promise35Valve() {
        HotSteps x = new HotSteps();
        due("35: before", x.valve(1, 9), 0);
        due("35: then", x.valve(1, 0), 9);
        due("35: same", x.valve(1, 0), 0);
        due("35: recorded", x.size(16), 3);
        due("35: the other", x.valve(0, 4), 0);
        due("35: opening", x.opening(0), 4);
        for (int bad : new int[] {-1, 2, LEAST, MOST}) {
            Check.isOutOfRange("valve(" + bad + ", 0)", () -> x.valve(bad, 0));
        }
        for (int bad : new int[] {-1, 10, LEAST, MOST}) {
            Check.isOutOfRange("valve(0, " + bad + ")", () -> x.valve(0, bad));
        }
    }

    private static void promise36Waits() {
        HotSteps x = new HotSteps();
        due("36: nobody", x.waits(1), 0);
        due("36: an hour", x.waits(60), 0);
        due("36: time", x.size(9), 61);
        due("36: minutes", x.account(8), 61);
        due("36: gongs", x.account(7), 3);
        due("36: recorded", x.size(16), 2);
        for (int bad : new int[] {0, -1, 61, LEAST, MOST}) {
            Check.isOutOfRange("waits(" + bad + ")", () -> x.waits(bad));
        }
        while (x.size(9) < 9941) {
            x.waits(60);
        }
        due("36: time", x.size(9), 9961);
        refused(x, "36: above 9999", () -> x.waits(39), -5);
        due("36: to 9999", x.waits(38), 0);
        refused(x, "36: no more", () -> x.waits(1), -5);
        due("36: minutes then", x.account(8), 9999);
        due("36: gongs then", x.account(7), 499);
    }

    private static void promise36Minute() {
        HotSteps x = Check.house("bath 9 9 8 4 4 1 60 0; guest a 50; guest b 0; guest c 50; guest d 50; guest e 50");
        Check.play(x, "enter a; enter b; enter c; enter d; enter e; sit a 4; sit b 1; sit c 3; sit d 2; hang e 8; valve 0 9; valve 1 9; valve 2 9;");
        x.waits(1);
        due("36: heat", x.size(10), 53);
        // a 77 above 72: 2; b 59 below 60; c 71; d 65
        strains(x, 2, 0, 0, 0);
        due("36: wet", x.towel(0, 0), 1);
        due("36: on the peg", x.towel(4, 0), 0);
        x.waits(1);
        due("36: heat 75", x.size(10), 75);
        // a 99 above 72: 6 more; b 81 above 60: 5; c 93: 5; d 87: 4
        strains(x, 8, 5, 5, 4);
        due("36: all but e come down", x.waits(1), 4);
        due("36: heat 96", x.size(10), 96);
        // by numbers: a finds 3, 2 and 1 full and goes to the hall, b goes there, c finds 2 full and goes to 1, d finds 1 full
        strains(x, 5, 5, 5, 5);
        due("36: a", x.guest(0, 1), 0);
        due("36: b", x.guest(1, 1), 0);
        due("36: c", x.guest(2, 1), 1);
        due("36: d", x.guest(3, 1), 0);
        due("36: account 4", x.account(4), 4);
        due("36: account 6", x.account(6), 12);
        x.waits(1);
        due("36: in the hall it becomes less", x.guest(0, 4), 4);
        due("36: the towel in the hall stays", x.towel(0, 0), 3);
        Check.play(x, "valve 0 0; valve 1 0; valve 2 0; wait 10;");
        due("36: at least 0", x.guest(2, 4), 0);
        HotSteps y = Check.house("bath 9 9 8 4 4 1 60 0; guest a 50");
        Check.play(y, "enter a; sit a 1; wait 12; hall a; hang a 8;");
        due("36: wet at most 9", y.towel(0, 0), 9);
        due("36: account 6 at most 9", y.account(6), 9);
        y.waits(2);
        due("36: dries", y.towel(0, 0), 7);
        Check.play(y, "valve 0 9; valve 1 9; valve 2 9; valve 3 9; wait 2;");
        // heat is 0: 33, then 65
        due("36: dries below 60 alone", y.towel(0, 0), 6);
        y.waits(10);
        due("36: not in the heat", y.towel(0, 0), 6);
        strainByOne();
        dryAt59();
    }

    /** One degree above what a guest bears, and exactly that; on a step strain becomes less, too. */
    private static void strainByOne() {
        HotSteps x = Check.house("bath 9 9 8 4 4 1 60 0; guest a 4; guest b 0");
        Check.play(x, "enter a; enter b; valve 0 9; valve 1 9; valve 2 7; wait 1;");
        due("36: heat 51", x.size(10), 51);
        Check.play(x, "valve 0 9; valve 1 0; valve 2 0; sit a 1; wait 1;");
        due("36: heat 55", x.size(10), 55);
        due("36: 61 is what a bears", x.step(1, 1) - x.guest(0, 6), 0);
        due("36: no strain", x.guest(0, 4), 0);
        Check.play(x, "valve 0 6; wait 1;");
        due("36: one above", x.step(1, 1) - x.guest(0, 6), 1);
        due("36: strain 1", x.guest(0, 4), 1);
        Check.play(x, "valve 0 5; wait 7;");
        due("36: strain 8", x.guest(0, 4), 8);
        x.waits(1);
        due("36: strain 9 is not too much", x.guest(0, 1) * 10 + x.guest(0, 4), 19);
        due("36: strain 10 is", x.downIn(0), 1);
        Check.play(x, "valve 0 0; wait 1;");
        due("36: less on a step", x.guest(0, 1) * 10 + x.guest(0, 4), 18);
        x.waits(1);
        due("36: less again", x.guest(0, 4), 7);
        Check.play(x, "valve 0 8; wait 1; valve 0 5; wait 3;");
        due("36: heat", x.size(10), 49);
        due("36: and less", x.guest(0, 4), 3);
        Check.play(x, "valve 0 9; valve 1 9; valve 2 2; wait 1;");
        due("36: nine above", x.step(1, 1) - x.guest(0, 6), 9);
        due("36: 9 divided by 5, and 1", x.guest(0, 4), 5);
    }

    private static void dryAt59() {
        HotSteps x = Check.house("bath 9 9 8 4 4 1 60 0; guest a 4; guest b 0");
        Check.play(x, "enter a; sit a 1; wait 3; hall a; hang a 8; valve 0 9; valve 1 9; valve 2 9; valve 3 9;");
        due("36: heat", x.size(10), 18);
        x.waits(1);
        due("36: heat", x.size(10), 51);
        Check.play(x, "valve 0 9; valve 1 4; valve 2 0; valve 3 0; wait 1;");
        due("36: heat 59", x.size(10), 59);
        due("36: it dries at 59", x.towel(0, 0), 1);
        due("36: it would not at 60", x.ifValve(1, 0), 63);
        Check.play(x, "valve 0 6; valve 1 0; wait 1;");
        due("36: heat 60", x.size(10), 60);
        due("36: it does not at 60", x.towel(0, 0), 1);
        due("36: dryIn at 60", x.dryIn(0), NONE);
        Check.play(x, "valve 0 5;");
        due("36: dryIn at 59", x.dryIn(0), 1);
    }

    private static void strains(HotSteps x, int... want) {
        for (int guest = 0; guest < want.length; guest++) {
            due("36: strain of " + guest, x.guest(guest, 4), want[guest]);
        }
    }

    private static void promise37Set() {
        HotSteps x = new HotSteps();
        due("37: room", x.set(6, 9), 2);
        due("37: room then", x.set(6, 1), 9);
        due("37: gong", x.set(7, 60), 20);
        due("37: gong then", x.set(7, 2), 60);
        due("37: quiet", x.set(8, 30), 5);
        due("37: quiet then", x.set(8, 0), 30);
        due("37: same", x.set(8, 0), 0);
        due("37: recorded", x.size(16), 7);
        int[][] bad = {{5, 5}, {9, 5}, {-1, 5}, {LEAST, 5}, {MOST, 5}, {6, 0}, {6, 10}, {6, -1}, {7, 1}, {7, 61}, {8, -1}, {8, 31},
            {6, MOST}, {7, LEAST}, {8, MOST}};
        for (int[] two : bad) {
            Check.isOutOfRange("set(" + two[0] + ", " + two[1] + ")", () -> x.set(two[0], two[1]));
        }
        x.set(6, 2);
        Check.play(x, "enter ada; enter cai; sit ada 4; sit cai 4;");
        x.set(6, 1);
        due("37: nobody goes by that", x.step(4, 0), 2);
        x.set(7, 3);
        x.waits(3);
        due("37: gongs", x.account(7), 1);
        Check.load(x, "bath 1 1 1 1 1 7 9 8");
        due("37: by the setup again", x.size(6) * 100 + x.size(7) * 10 + x.size(8), 798);
    }

    private static void promise38Report() {
        HotSteps x = Check.house("bath 9 12 11 1 3 3 60 0; guest zoe 50; guest b 50; guest cdefgh 50; guest q 50");
        Check.dueText("38: at first", Check.report(x), "3: 2: 1: h: p:0,1,2,3,4,5,6,7,8,9,10,-");
        Check.play(x, "enter q; enter b; enter zoe; enter cdefgh; sit q 3; sit zoe 3; sit b 1; hang cdefgh 11;");
        Check.dueText("38: then", Check.report(x), "3:zoe,q 2: 1:b h:cdefgh p:-,-,-,-,4,5,6,7,8,9,10,3");
        Check.play(x, "hall zoe; hall q;");
        Check.dueText("38: hall", Check.report(x), "3: 2: 1:b h:zoe,cdefgh,q p:-,-,-,-,4,5,6,7,8,9,10,3");
        due("38: nothing recorded", x.size(16), 2);
        Check.dueText("38: small", Check.report(Check.house("bath 1 1 0 1 1 1 2 0")), "1: h: p:-");
        HotSteps y = Check.house("bath 12 16 16 4 6 9 2 0;guest aaaaaa 50;guest aaaaab 50;guest aaaaac 50;guest aaaaad 50;guest aaaaae 50"
            + ";guest aaaaaf 50;guest aaaaag 50;guest aaaaah 50;guest aaaaai 50;guest aaaaaj 50;guest aaaaak 50;guest aaaaal 50");
        for (int guest = 0; guest < 12; guest++) {
            y.enter(guest);
        }
        Check.dueText("38: long", Check.report(y), "6: 5: 4: 3: 2: 1: h:aaaaaa,aaaaab,aaaaac,aaaaad,aaaaae,aaaaaf,aaaaag,aaaaah,aaaaai,"
            + "aaaaaj,aaaaak,aaaaal p:-,-,-,-,-,-,-,-,-,-,-,-,12,13,14,15");
    }

    private static void promise39ReportByte() {
        HotSteps x = new HotSteps();
        due("39: none yet", x.reportByte(0), NONE);
        int length = x.report();
        due("39: length", length, "4: 3: 2: 1: h: p:0,1,2,3,4,-".length());
        due("39: first", x.reportByte(0), '4');
        due("39: second", x.reportByte(1), 58);
        due("39: last", x.reportByte(length - 1), 45);
        due("39: behind", x.reportByte(length), NONE);
        due("39: below", x.reportByte(-1), NONE);
        due("39: far", x.reportByte(MOST), NONE);
        due("39: far below", x.reportByte(LEAST), NONE);
        x.enter(0);
        due("39: the latest report", x.reportByte(length - 1), 45);
        x.undo();
        x.report();
        x.enter(0);
        x.report();
        x.undo();
        due("39: undo leaves it", x.reportByte(14), 'a');
        Check.load(x, "bath 1 1 0 1 1 1 2 0");
        due("39: load leaves it", x.reportByte(14), 'a');
        x.report();
        due("39: in place of the one before", x.reportByte(14), NONE);
    }

    private static void promise40Undo() {
        HotSteps x = new HotSteps();
        due("40: nothing", x.undo(), NONE);
        for (int change = 0; change < 11; change++) {
            changeOfEleven(x, change);
            due("40: size(16)", x.size(16), Math.min(8, change + 1));
        }
        x.hang(0, 0);
        due("40: the refused one is not recorded", x.size(16), 8);
        due("40: it is counted", x.account(9), 1);
        Check.put(x, "eli");
        for (int left = 7; left >= 0; left--) {
            due("40: undo", x.undo(), left);
            due("40: size(16)", x.size(16), left);
        }
        due("40: 8 and no more", x.undo(), NONE);
        Check.dueText("40: as behind the first three", Check.lookAtState(x), Check.lookAtState(behindOfEleven(3)));
        due("40: account 9 stays", x.account(9), 1);
        due("40: the buffer stays", x.find(), 4);
        undoSomeOfEleven();
        undoOfSettings();
        undoOfEach();
        undoOfMinutes();
    }

    private static void changeOfEleven(HotSteps x, int change) {
        switch (change) {
            case 0: x.enter(0); break;
            case 1: x.sit(0, 4); break;
            case 2: x.valve(0, 9); break;
            case 3: x.waits(22); break;
            case 5: x.enter(1); break;
            case 8: x.wash(); break;
            case 9: x.set(6, 1); break;
            case 10: Check.play(x, "leave ben; wait 3;"); break;
            default: x.speak(0);
        }
    }

    private static HotSteps behindOfEleven(int changes) {
        HotSteps x = new HotSteps();
        for (int change = 0; change < changes; change++) {
            changeOfEleven(x, change);
        }
        return x;
    }

    private static void undoSomeOfEleven() {
        for (int undone = 1; undone <= 8; undone++) {
            HotSteps x = behindOfEleven(11);
            for (int i = 0; i < undone; i++) {
                x.undo();
            }
            Check.dueText("40: " + undone + " undone", Check.lookAtState(x), Check.lookAtState(behindOfEleven(11 - undone)));
        }
    }

    private static void undoOfSettings() {
        HotSteps x = new HotSteps();
        x.set(7, 9);
        x.set(8, 9);
        due("40: of settings", x.undo(), 1);
        due("40: quiet", x.size(8), 5);
        due("40: gong", x.size(7), 9);
        x.undo();
        due("40: gong then", x.size(7), 20);
        x.waits(20);
        due("40: silence", x.size(15), 1);
        x.undo();
        x.set(8, 30);
        due("40: no gong any more", x.size(15), 0);
    }

    private static HotSteps threeGuests() {
        HotSteps x = Check.house("bath 4 6 5 4 4 2 3 30; guest a 30; guest b 8; guest c 61");
        Check.play(x, "enter a; enter b; sit a 2; sit b 1; wait 3; speak a; speak a; speak b; hall b; hang b 5;");
        return x;
    }

    private static void undoOfEach() {
        List<ToIntFunction<HotSteps>> changes = List.of(x -> x.enter(2), x -> x.sit(0, 4), x -> x.hall(0), x -> x.take(1, 3), x -> x.leave(1),
            x -> x.speak(0), x -> x.speak(1), x -> x.valve(3, 9), x -> x.waits(5), x -> x.set(6, 1), x -> x.set(7, 7), x -> x.set(8, 0),
            x -> Check.play(x, HOT));
        for (int i = 0; i < changes.size(); i++) {
            HotSteps x = threeGuests();
            String first = Check.lookAtState(x);
            due("40: change " + i + " is done", changes.get(i).applyAsInt(x) >= 0 ? 1 : 0, 1);
            due("40: change " + i + " changed something", Check.lookAtState(x).equals(first) ? 1 : 0, 0);
            x.undo();
            Check.dueText("40: change " + i + " undone", Check.lookAtState(x), first);
        }
    }

    private static void undoOfMinutes() {
        HotSteps x = threeGuests();
        String first = Check.lookAtState(x);
        Check.play(x, "sit a 4;" + HOT);
        String hot = Check.lookAtState(x);
        due("40: strain", x.guest(0, 4) > 0 ? 1 : 0, 1);
        for (int i = 0; i < 6; i++) {
            x.waits(1);
        }
        for (int i = 0; i < 6; i++) {
            x.undo();
        }
        Check.dueText("40: minutes undone", Check.lookAtState(x), hot);
        x.undo();
        Check.dueText("40: all undone", Check.lookAtState(x), first);
    }

    private static void promise41Save() {
        HotSteps x = new HotSteps();
        due("41: at first", x.save(0), 0);
        x.waits(7);
        due("41: time", x.save(1), 7);
        due("41: no change", x.size(16), 1);
        x.waits(1);
        due("41: in place", x.save(1), 8);
        for (int bad : new int[] {-1, 2, LEAST, MOST}) {
            Check.isOutOfRange("save(" + bad + ")", () -> x.save(bad));
        }
        due("41: slot 0 stays", x.restore(0), 0);
        due("41: slot 1", x.restore(1), 8);
    }

    private static void promise42Restore() {
        HotSteps x = new HotSteps();
        Check.isNotFound("42: restore(0)", () -> x.restore(0));
        Check.isNotFound("42: restore(1)", () -> x.restore(1));
        for (int bad : new int[] {-1, 2, LEAST, MOST}) {
            Check.isOutOfRange("restore(" + bad + ")", () -> x.restore(bad));
        }
        Check.play(x, "enter ada; enter ben; sit ada 4; wait 21; speak ada; valve 0 3; hang ben 0;");
        x.set(6, 3);
        refused(x, "42: refused", () -> x.hall(1), -3);
        String saved = Check.lookAtState(x);
        due("42: save", x.save(1), 21);
        Check.play(x, "hall ada; leave ada; wait 60; wash; valve 1 5;");
        x.set(6, 1);
        x.set(7, 2);
        x.set(8, 0);
        x.report();
        Check.put(x, "ben");
        refused(x, "42: refused again", () -> x.enter(1), -2);
        due("42: restore", x.restore(1), 21);
        Check.dueText("42: as it was", Check.lookAtState(x), saved);
        due("42: room", x.size(6), 3);
        due("42: gong", x.size(7), 20);
        due("42: quiet", x.size(8), 5);
        due("42: silence", x.size(15), 1);
        due("42: account 9 stays", x.account(9), 2);
        due("42: the buffer stays", x.find(), 1);
        due("42: the report stays", x.reportByte(2), ' ');
        due("42: nothing can be undone", x.undo(), NONE);
        due("42: size(16)", x.size(16), 0);
        x.waits(9);
        due("42: the slot stays", x.restore(1), 21);
        Check.isNotFound("42: the other slot", () -> x.restore(0));
        Check.dueText("42: as it was again", Check.lookAtState(x), saved);
        x.waits(1);
        due("42: what comes then can be undone", x.undo(), 0);
        due("42: the slot is apart from now", x.restore(1), 21);
    }
}
