/** The boundary cases of "Texts", with promises 2 to 5, 14 and 15, a test each. */
public final class EdgeTextsTest {
    private static final int NONE = HotSteps.NONE;
    private static final int LEAST = Integer.MIN_VALUE;
    private static final int MOST = Integer.MAX_VALUE;
    /** A setup without guests, of 20 bytes. */
    private static final String BATH = "bath 1 1 1 1 1 1 2 0";
    private static final String SIXTEEN = BATH + ";guest a 0;guest b 0;guest c 0;guest d 0;guest e 0;guest f 0;guest g 0;guest h 0"
        + ";guest i 0;guest j 0;guest k 0;guest l 0;guest m 0;guest n 0;guest o 0;guest p 0";

    public static void main(String[] args) {
        feed();
        find();
        letter();
        tokens();
        setupNumbers();
        setupGuests();
        setupEnds();
        load();
        scriptNumbers();
        scriptOrders();
        scriptBrackets();
        scriptLimits();
        errorPosition();
        Check.end("EdgeTextsTest");
    }

    private static void test(String name, Runnable body) {
        Check.test(name, body);
    }

    private static void due(String call, long got, long want) {
        Check.due(call, got, want);
    }

    private static int held(HotSteps x) {
        return x.feed(0, 0, 0, 0, 0);
    }

    /** A setup, or a script, that is read without an error. */
    private static void reads(boolean setup, String text, int answer) {
        HotSteps x = new HotSteps();
        due((setup ? "load of '" : "play of '") + text + "'", setup ? Check.load(x, text) : Check.play(x, text), answer);
        due("errorPosition() behind '" + text + "'", x.errorPosition(), NONE);
        due("the buffer behind '" + text + "'", held(x), 0);
    }

    private static void loads(String setup, int guests) {
        reads(true, setup, guests);
    }

    private static void plays(String script, int done) {
        reads(false, script, done);
    }

    private static void fails(boolean setup, String text, int code, int at) {
        HotSteps x = new HotSteps();
        due((setup ? "load of '" : "play of '") + text + "'", setup ? Check.load(x, text) : Check.play(x, text), -20 - code);
        due("errorPosition() behind '" + text + "'", x.errorPosition(), at);
        due("the buffer behind '" + text + "'", held(x), 0);
    }

    private static void loadFails(String setup, int code, int at) {
        fails(true, setup, code, at);
    }

    private static void playFails(String script, int code, int at) {
        fails(false, script, code, at);
    }

    // ---- promise 2

    private static void feed() {
        test("Promise 2, empty: a new object's buffer holds nothing", () -> due("feed of zeros", held(new HotSteps()), 0));
        test("Promise 2: the most significant byte is the first, the bytes of a ahead of those of e", EdgeTextsTest::feedOrder);
        test("Promise 2: bytes of 0 are left out, at each of the 20 places", EdgeTextsTest::feedZeros);
        test("Promise 2: bytes of 1, 127, 128 and 255 are held, by negative parameters too", EdgeTextsTest::feedBytes);
        test("Promise 2, full: 600 bytes are held, one by one and by twenties", EdgeTextsTest::feedFull);
        test("Promise 2, full: at 600 zeros alone are taken, and one byte at each place answers NONE", EdgeTextsTest::feedAtFull);
        test("Promise 2, full: with room for 19 bytes 20 answer NONE, and none of them is appended", EdgeTextsTest::feedOneTooMany);
        test("Promise 2, full: bytes of 0 do not count, 19 of 20 fit", EdgeTextsTest::feedZerosAtFull);
    }

    private static void feedOrder() {
        HotSteps x = new HotSteps();
        due("feed of a script", x.feed('w' << 24 | 'a' << 16 | 'i' << 8 | 't', ' ' << 24 | '6' << 16 | '0' << 8 | ';', 'w' << 24 | 'a' << 16 | 's' << 8 | 'h',
            ';' << 24 | 'w' << 16 | 'a' << 8 | 's', 'h' << 24 | ';' << 16 | '5' << 8 | '6'), 20);
        due("play(), it ends with 56", x.play(), -21);
        due("errorPosition()", x.errorPosition(), 18);
    }

    private static void feedZeros() {
        for (int place = 0; place < 20; place++) {
            int[] five = new int[5];
            five[place / 4] = 'a' << 24 - place % 4 * 8;
            HotSteps x = Check.houseOf("1 1 1 1 1 1 2 0", 5);
            due("feed of one byte at " + place, x.feed(five[0], five[1], five[2], five[3], five[4]), 1);
            due("find()", x.find(), 0);
        }
    }

    private static void feedBytes() {
        HotSteps x = new HotSteps();
        due("feed of 1", x.feed(1, 0, 0, 0, 0), 1);
        due("feed of 127 and 128", x.feed(0, 0x7F80, 0, 0, 0), 3);
        due("feed of -1", x.feed(-1, 0, 0, 0, 0), 7);
        due("feed of LEAST", x.feed(0, 0, 0, 0, LEAST), 8);
        due("feed of MOST", x.feed(0, 0, 0, MOST, 0), 12);
        due("feed of 256", x.feed(256, 0, 0, 0, 0), 13);
    }

    private static void feedFull() {
        HotSteps x = new HotSteps();
        for (int i = 1; i <= 30; i++) {
            due("feed of twenty", x.feed(-1, -1, -1, -1, -1), 20 * i);
        }
        due("feed of one more", x.feed(1, 0, 0, 0, 0), NONE);
        due("load(), the first byte is wrong", x.load(), -21);
        due("the buffer then", held(x), 0);
        for (int i = 1; i <= 300; i++) {
            due("feed of one", x.feed(0, 0, 255, 0, 0), i);
        }
    }

    private static void feedAtFull() {
        HotSteps x = new HotSteps();
        for (int i = 1; i <= 30; i++) {
            x.feed(-1, -1, -1, -1, -1);
        }
        for (int place = 0; place < 20; place++) {
            int[] five = new int[5];
            five[place / 4] = 1 << 24 - place % 4 * 8;
            due("feed of one byte at " + place, x.feed(five[0], five[1], five[2], five[3], five[4]), NONE);
        }
        due("feed of zeros", held(x), 600);
    }

    private static void feedOneTooMany() {
        HotSteps x = Check.houseOf("1 1 1 1 1 1 2 0", 5);
        for (int i = 1; i <= 29; i++) {
            x.feed(0x20202020, 0x20202020, 0x20202020, 0x20202020, 0x20202020);
        }
        due("581 bytes", x.feed(0x20000000, 0, 0, 0, 0), 581);
        due("feed of 20", x.feed(-1, -1, -1, -1, -1), NONE);
        due("581 still", held(x), 581);
        due("play(), nothing of the refused bytes is there", x.play(), 0);
    }

    private static void feedZerosAtFull() {
        HotSteps x = new HotSteps();
        for (int i = 1; i <= 29; i++) {
            x.feed(-1, -1, -1, -1, -1);
        }
        due("581 bytes", x.feed(0, 0, 0, 0, 1), 581);
        due("19 of 20", x.feed(-1, -1, 0x00FFFFFF, -1, -1), 600);
    }

    // ---- promises 14 and 15

    private static void find() {
        test("Promise 15, empty: an empty buffer is no name", () -> due("find()", new HotSteps().find(), NONE));
        test("Promise 15: a name of one letter, and of six, and what is one letter shorter and longer", EdgeTextsTest::findByLength);
        test("Promise 15: the whole buffer, a blank ahead of the name or behind it is too much", EdgeTextsTest::findWhole);
        test("Promise 15: the buffer stays", EdgeTextsTest::findStays);
        test("Promise 15, full: a buffer of 600 bytes is no name", EdgeTextsTest::findFull);
        test("Promise 15: the first and the last of 16 guests", EdgeTextsTest::findSixteen);
        test("Promise 15: without guests", () -> {
            HotSteps x = Check.house(BATH);
            Check.put(x, "ada");
            due("find()", x.find(), NONE);
        });
    }

    private static int found(HotSteps x, String text) {
        Check.put(x, text);
        int guest = x.find();
        x.play();
        return guest;
    }

    private static void findByLength() {
        HotSteps x = Check.house(BATH + ";guest abcdef 1;guest z 1;guest abc 1");
        due("find of abcdef", found(x, "abcdef"), 0);
        due("find of abcde", found(x, "abcde"), NONE);
        due("find of abcdefa", found(x, "abcdefa"), NONE);
        due("find of abcdez", found(x, "abcdez"), NONE);
        due("find of z", found(x, "z"), 1);
        due("find of zz", found(x, "zz"), NONE);
        due("find of abc", found(x, "abc"), 2);
    }

    private static void findWhole() {
        HotSteps x = Check.houseOf("1 1 1 1 1 1 2 0", 5);
        due("find of 'a'", found(x, "a"), 0);
        due("find of ' a'", found(x, " a"), NONE);
        due("find of 'a '", found(x, "a "), NONE);
        due("find of 'A'", found(x, "A"), NONE);
    }

    private static void findStays() {
        HotSteps x = new HotSteps();
        Check.put(x, "eli");
        due("find()", x.find(), 4);
        due("the buffer", held(x), 3);
        due("find(), again", x.find(), 4);
    }

    private static void findFull() {
        HotSteps x = new HotSteps();
        for (int i = 0; i < 30; i++) {
            Check.put(x, "adaadaadaadaadaadaad");
        }
        due("the buffer", held(x), 600);
        due("find()", x.find(), NONE);
    }

    private static void findSixteen() {
        HotSteps x = Check.house(SIXTEEN);
        due("find of a", found(x, "a"), 0);
        due("find of p", found(x, "p"), 15);
        due("find of q", found(x, "q"), NONE);
    }

    private static void letter() {
        test("Promise 14: letter -1, the first, the last, and the one behind it, of a name of one letter and of six", () -> {
            HotSteps x = Check.house(BATH + ";guest z 1;guest azazaz 1");
            int[][] cases = {{0, -1, NONE}, {0, 0, 'z'}, {0, 1, NONE}, {0, 5, NONE}, {1, -1, NONE}, {1, 0, 'a'}, {1, 5, 'z'}, {1, 6, NONE},
                {0, LEAST, NONE}, {0, MOST, NONE}, {1, LEAST, NONE}, {1, MOST, NONE}, {1, -6, NONE}};
            for (int[] one : cases) {
                due("letter(" + one[0] + ", " + one[1] + ")", x.letter(one[0], one[1]), one[2]);
            }
        });
        test("Promise 14, range: a GUEST below 0, and as many as there are", () -> {
            HotSteps x = Check.house(BATH + ";guest z 1;guest azazaz 1");
            for (int bad : new int[] {-1, 2, LEAST, MOST}) {
                Check.isOutOfRange("letter(" + bad + ", 0)", () -> x.letter(bad, 0));
            }
        });
    }

    // ---- tokens

    private static void tokens() {
        test("Promise 3 and 4, tokens: of the bytes 1 to 255 only 32 and 10 are passed over, behind a number", EdgeTextsTest::eachByteBehindNumber);
        test("Promise 3 and 4, tokens: of the bytes 1 to 255 only a to z go on with a word", EdgeTextsTest::eachByteBehindWord);
        test("Promise 3 and 4, tokens: of the bytes 1 to 255 none begins a script but a blank", EdgeTextsTest::eachByteAlone);
        test("Promise 3 and 4, tokens: of the bytes 1 to 255 only 0 to 9 stand for a number, only a to z for a NAME", EdgeTextsTest::eachByteForNumberAndName);
        test("Promise 3 and 4, tokens: a word and a number are maximal runs, a blank parts them", EdgeTextsTest::maximalRuns);
        test("Promise 3 and 4, tokens: words and numbers side by side need no blank", EdgeTextsTest::sideBySide);
        test("Promise 3 and 4, tokens: blanks ahead, between and behind, as many as there may be", EdgeTextsTest::manyBlanks);
        test("Promise 3 and 4, tokens: each of ; ( ) is a token by itself, also without blanks", () -> plays("again 2(again 3(wash;););", 6));
    }

    private static boolean isDigit(int sign) {
        return sign >= '0' && sign <= '9';
    }

    private static void eachByteBehindNumber() {
        for (int sign = 1; sign <= 255; sign++) {
            String script = "wait 1" + (char) sign + ";";
            if (sign == ' ' || sign == '\n' || isDigit(sign)) {
                plays(script, 1);
            } else {
                playFails(script, 1, sign == ';' ? 7 : 6);
            }
        }
    }

    private static void eachByteBehindWord() {
        for (int sign = 1; sign <= 255; sign++) {
            String script = "enter adx" + (char) sign + ";";
            if (sign == ' ' || sign == '\n' || sign >= 'a' && sign <= 'z') {
                plays(script, 0);
            } else {
                playFails(script, 1, sign == ';' ? 10 : 9);
            }
        }
    }

    private static void eachByteAlone() {
        for (int sign = 1; sign <= 255; sign++) {
            String script = "" + (char) sign;
            if (sign == ' ' || sign == '\n') {
                plays(script, 0);
            } else {
                playFails(script, 1, 0);
                loadFails(script, 1, 0);
            }
        }
    }

    private static void eachByteForNumberAndName() {
        for (int sign = 1; sign <= 255; sign++) {
            boolean blank = sign == ' ' || sign == '\n';
            String wait = "wait 5;wait " + (char) sign + ";";
            if (!isDigit(sign)) {
                playFails(wait, 1, blank ? 13 : 12);
            } else if (sign == '0') {
                playFails(wait, 2, 12);
            } else {
                plays(wait, 2);
            }
            String hall = "hall " + (char) sign + ";";
            if (sign >= 'a' && sign <= 'z') {
                plays(hall, 0);
            } else {
                playFails(hall, 1, blank ? 6 : 5);
            }
        }
    }

    private static void maximalRuns() {
        playFails("wait 6 1;", 1, 7);
        playFails("wait 61;", 2, 5);
        playFails("wa it 1;", 1, 0);
        playFails("waitwait 1;", 1, 0);
        loadFails("bath 1 1 1 1 1 1 2 0;guest a b 1", 1, 29);
    }

    private static void sideBySide() {
        loads("bath1 1 1 1 1 1 2 0;guest a1;guest b2", 2);
        plays("wait1;enter ada;sit ada4;valve1 9;", 4);
    }

    private static void manyBlanks() {
        loads(" \n bath\n1 1  1\n\n1 1 1 2 0 ; guest\na\n1 \n", 1);
        plays("\n\n wait\n1 ;\n wash ; \n", 2);
        plays(" ".repeat(595) + "wash;", 1);
        plays("wash;" + "\n".repeat(595), 1);
    }

    // ---- setups

    /** One number of the setup at its edges: too small, the least, the most, too large. */
    private static void number(String name, String ahead, String behind, int least, int most) {
        test("Promise 3, text: " + name + " of " + least + " and " + most + ", and one beside each", () -> {
            loads(ahead + least + behind, 0);
            loads(ahead + most + behind, 0);
            if (least > 0) {
                loadFails(ahead + (least - 1) + behind, 2, ahead.length());
            }
            loadFails(ahead + (most + 1) + behind, 2, ahead.length());
            loadFails(ahead + "-1" + behind, 1, ahead.length());
        });
        test("Promise 3, text: " + name + " so large that it would go round to " + least, () -> {
            loadFails(ahead + (4294967296L + least) + behind, 2, ahead.length());
            loadFails(ahead + "1844674407370955161" + (6 + least) + behind, 2, ahead.length());
            loadFails(ahead + "9".repeat(100) + behind, 2, ahead.length());
        });
        test("Promise 3, text: " + name + " with zeros ahead is the same number", () -> {
            loads(ahead + "0".repeat(100) + least + behind, 0);
            loadFails(ahead + "0".repeat(100) + (most + 1) + behind, 2, ahead.length());
        });
        test("Promise 3, text: " + name + " is not there", () -> {
            loadFails(ahead, 1, ahead.length());
            loadFails(ahead + ";", 1, ahead.length());
            loadFails(ahead + "bath", 1, ahead.length());
        });
    }

    private static void setupNumbers() {
        number("LOCKERS", "bath ", " 1 1 1 1 1 2 0", 1, 12);
        number("PEGS", "bath 1 ", " 1 1 1 1 2 0", 1, 16);
        number("TOWELS, with 16 PEGS", "bath 1 16 ", " 1 1 1 2 0", 0, 16);
        number("TOWELS, with 5 PEGS", "bath 1 5 ", " 1 1 1 2 0", 0, 5);
        number("TOWELS, with 1 PEG", "bath 1 1 ", " 1 1 1 2 0", 0, 1);
        number("VALVES", "bath 1 1 1 ", " 1 1 2 0", 1, 4);
        number("STEPS", "bath 1 1 1 1 ", " 1 2 0", 1, 6);
        number("ROOM", "bath 1 1 1 1 1 ", " 2 0", 1, 9);
        number("GONG", "bath 1 1 1 1 1 1 ", " 0", 2, 60);
        number("QUIET", "bath 1 1 1 1 1 1 2 ", "", 0, 30);
        test("Promise 3, text: the word bath, one letter less, more and another", () -> {
            loadFails("bat 1 1 1 1 1 1 2 0", 1, 0);
            loadFails("baths 1 1 1 1 1 1 2 0", 1, 0);
            loadFails("batg 1 1 1 1 1 1 2 0", 1, 0);
            loadFails("cath 1 1 1 1 1 1 2 0", 1, 0);
            loadFails("guest a 1", 1, 0);
        });
    }

    private static void setupGuests() {
        test("Promise 3, text: no guest, one, and 16", () -> {
            loads(BATH, 0);
            loads(BATH + ";guest a 1", 1);
            loads(SIXTEEN, 16);
        });
        test("Promise 3, text: AGE of 0 and 99, and one beside", () -> {
            loads(BATH + ";guest a 0", 1);
            loads(BATH + ";guest a 99", 1);
            loadFails(BATH + ";guest a 100", 2, 29);
            loadFails(BATH + ";guest a -1", 1, 29);
            loadFails(BATH + ";guest a 4294967296", 2, 29);
        });
        test("Promise 3, text: a NAME of 1 and of 6 letters, of none and of 7", () -> {
            loads(BATH + ";guest z 1", 1);
            loads(BATH + ";guest abcdef 1", 1);
            loadFails(BATH + ";guest 1", 1, 27);
            loadFails(BATH + ";guest abcdefg 1", 2, 27);
            loadFails(BATH + ";guest " + "a".repeat(500) + " 1", 2, 27);
        });
        test("Promise 3, text, full: 16 guests with names of 6 letters", () -> {
            StringBuilder setup = new StringBuilder(BATH);
            for (int guest = 0; guest < 16; guest++) {
                setup.append(";guest abcde").append((char) ('a' + guest)).append(99 - guest);
            }
            HotSteps x = new HotSteps();
            due("load()", Check.load(x, setup.toString()), 16);
            for (int guest = 0; guest < 16; guest++) {
                due("letter(" + guest + ", 0)", x.letter(guest, 0), 'a');
                due("letter(" + guest + ", 5)", x.letter(guest, 5), 'a' + guest);
                due("guest(" + guest + ", 0)", x.guest(guest, 0), 99 - guest);
            }
        });
        test("Promise 3, error 3: a NAME that the first, or the last of 15 guests has; one letter more or less is another", () -> {
            loadFails(BATH + ";guest a 1;guest a 2", 3, 37);
            loads(BATH + ";guest ab 1;guest a 2;guest abc 3;guest b 4", 4);
            String fifteen = SIXTEEN.substring(0, SIXTEEN.length() - ";guest p 0".length());
            loadFails(fifteen + ";guest a 1", 3, fifteen.length() + 7);
            loadFails(fifteen + ";guest o 1", 3, fifteen.length() + 7);
            loads(fifteen + ";guest q 1", 16);
        });
        test("Promise 3, error 3: is told ahead of the error 2 of the AGE behind it", () -> loadFails(BATH + ";guest a 1;guest a 100", 3, 37));
        test("Promise 3, error 4: the word guest of a 17th guest, ahead of errors 2 and 3 behind it", () -> {
            loadFails(SIXTEEN + ";guest q 1", 4, SIXTEEN.length() + 1);
            loadFails(SIXTEEN + "; guest a 100", 4, SIXTEEN.length() + 2);
            loadFails(SIXTEEN + ";guest", 4, SIXTEEN.length() + 1);
        });
        test("Promise 3, error 1: in place of the 17th word guest another word, a number, a sign, and the end", () -> {
            for (String other : new String[] {"gues", "guests", "bath", "1", ";", "(", ")", "&", ""}) {
                loadFails(SIXTEEN + ";" + other, 1, SIXTEEN.length() + 1);
            }
        });
        test("Promise 3, text: guests may have the names of the grammar's words", () ->
            loads(BATH + ";guest guest 1;guest bath 1;guest enter 1;guest again 1", 4));
    }

    private static void setupEnds() {
        test("Promise 3, empty: an empty buffer, and one of blanks, ends too early", () -> {
            loadFails("", 1, 0);
            loadFails(" ", 1, 1);
            loadFails("\n".repeat(600), 1, 600);
        });
        test("Promise 3, error 1: the text ends behind each of its tokens, at its length, blanks counted", () -> {
            String[] tokens = (BATH + " ; guest a").split(" ");
            StringBuilder text = new StringBuilder();
            for (int i = 0; i < tokens.length; i++) {
                text.append(i == 0 ? "" : " ").append(tokens[i]);
                if (i == 8) {
                    loads(text.toString(), 0);
                } else {
                    loadFails(text.toString(), 1, text.length());
                    loadFails(text + " \n ", 1, text.length() + 3);
                }
            }
        });
        test("Promise 3, error 1: a token too many behind the setup", () -> {
            for (String more : new String[] {"1", "a", "guest", "(", ")", "&", ";;", "; ;"}) {
                loadFails(BATH + " " + more, 1, BATH.length() + (more.startsWith(";") ? more.length() : 1));
            }
            loadFails(BATH + ";guest a 1 2", 1, 31);
        });
        test("Promise 3, errors: the first one along the text is told, though smaller codes follow", () -> {
            loadFails("bath 13 ;", 2, 5);
            loadFails("bath 1 x 99", 1, 7);
            loadFails("bath 1 17 x", 2, 7);
            loadFails(BATH + ";guest abcdefg &", 2, 27);
        });
    }

    private static void load() {
        test("Promise 3: an error changes nothing but the buffer and the error position", EdgeTextsTest::loadErrorChangesNothing);
        test("Promise 3: all is as at first, of guests, towels, valves and accounts", EdgeTextsTest::loadBeginsAnew);
        test("Promise 3: what can be undone is discarded", EdgeTextsTest::loadDiscardsUndo);
        test("Promise 3: what was saved in both slots is discarded", EdgeTextsTest::loadDiscardsSlots);
        test("Promise 3: a larger house behind a smaller one, and a smaller one behind a larger", EdgeTextsTest::loadOtherSizes);
        test("Promise 3: the report stays", EdgeTextsTest::loadLeavesReport);
        test("Promise 3: a setup of 600 bytes", () -> loads(SIXTEEN + " ".repeat(600 - SIXTEEN.length()), 16));
    }

    private static void loadErrorChangesNothing() {
        HotSteps x = Check.houseOf("2 3 2 1 1 1 2 30", 5, 5);
        Check.play(x, "enter a;sit a 1;wait 2;speak a;valve 0 9;");
        x.hall(1);
        x.save(1);
        String before = Check.look(x);
        due("load()", Check.load(x, "bath 12 16 16 4 6 9 60 30;guest q 1;guest q 1"), -23);
        Check.dueText("all behind it", Check.look(x), before);
        due("restore(1)", x.restore(1), 2);
    }

    private static void loadBeginsAnew() {
        String setup = "bath 2 3 2 2 1 1 2 30;guest a 5;guest b 5;guest c 5";
        HotSteps x = Check.house(setup);
        String first = Check.look(x);
        Check.play(x, "enter a;enter b;sit a 1;valve 0 9;valve 1 9;wait 4;speak b;speak a;speak a;speak a;enter a;");
        x.set(6, 9);
        x.set(7, 60);
        x.set(8, 0);
        due("all has changed: WET, STRAIN, WARNINGS", x.towel(0, 0) * 100 + (x.guest(0, 4) > 0 ? 10 : 0) + x.guest(1, 5), 411);
        due("load()", Check.load(x, setup), 3);
        Check.dueText("all behind it", Check.look(x), first);
        due("errorPosition()", x.errorPosition(), NONE);
    }

    private static void loadDiscardsUndo() {
        HotSteps x = new HotSteps();
        x.waits(1);
        x.waits(1);
        Check.load(x, BATH);
        due("size(16)", x.size(16), 0);
        due("undo()", x.undo(), NONE);
        x.waits(1);
        due("undo() of what came then", x.undo(), 0);
        due("undo(), again", x.undo(), NONE);
    }

    private static void loadDiscardsSlots() {
        HotSteps x = new HotSteps();
        x.save(0);
        x.save(1);
        Check.load(x, BATH);
        Check.findsNothing(x, "restore(0)", () -> x.restore(0));
        Check.findsNothing(x, "restore(1)", () -> x.restore(1));
    }

    private static void loadOtherSizes() {
        HotSteps x = new HotSteps();
        due("load of the largest", Check.load(x, "bath 12 16 16 4 6 9 60 30" + SIXTEEN.substring(BATH.length())), 16);
        due("locker(11)", x.locker(11), NONE);
        due("peg(15)", x.peg(15), 15);
        due("opening(3)", x.opening(3), 0);
        due("step(6, 2)", x.step(6, 2), 25);
        due("load of the smallest", Check.load(x, "bath 1 1 0 1 1 1 2 0"), 0);
        Check.isOutOfRange("locker(1)", () -> x.locker(1));
        Check.isOutOfRange("peg(1)", () -> x.peg(1));
        Check.isOutOfRange("towel(0, 0)", () -> x.towel(0, 0));
        Check.isOutOfRange("opening(1)", () -> x.opening(1));
        Check.isOutOfRange("step(2, 0)", () -> x.step(2, 0));
        Check.isOutOfRange("guest(0, 0)", () -> x.guest(0, 0));
        due("peg(0)", x.peg(0), NONE);
    }

    private static void loadLeavesReport() {
        HotSteps x = new HotSteps();
        int length = x.report();
        Check.load(x, BATH);
        due("reportByte(0)", x.reportByte(0), '4');
        due("reportByte of the last", x.reportByte(length - 1), '-');
        due("reportByte of the next", x.reportByte(length), NONE);
    }

    // ---- scripts

    /** One number of an order at its edges; the order with the least and the most is read without an error. */
    private static void orderNumber(String name, String ahead, String behind, int least, int most) {
        test("Promise 4, text: " + name + " of " + least + " and " + most + ", and one beside each", () -> {
            due("play with the least", Check.play(new HotSteps(), ahead + least + behind) >= 0 ? 1 : 0, 1);
            due("play with the most", Check.play(new HotSteps(), ahead + most + behind) >= 0 ? 1 : 0, 1);
            if (least > 0) {
                playFails(ahead + (least - 1) + behind, 2, ahead.length());
            }
            playFails(ahead + (most + 1) + behind, 2, ahead.length());
            playFails(ahead + "-1" + behind, 1, ahead.length());
            playFails(ahead + (4294967296L + least) + behind, 2, ahead.length());
        });
        test("Promise 4, text: " + name + " is not there", () -> {
            playFails(ahead, 1, ahead.length());
            playFails(ahead + ";", 1, ahead.length());
            playFails(ahead + "x;", 1, ahead.length());
        });
    }

    private static void scriptNumbers() {
        orderNumber("STEP", "sit ada ", ";", 1, 6);
        orderNumber("PEG of hang", "hang ada ", ";", 0, 15);
        orderNumber("PEG of take", "take ada ", ";", 0, 15);
        orderNumber("VALVE", "valve ", " 0;", 0, 3);
        orderNumber("OPENING", "valve 0 ", ";", 0, 9);
        orderNumber("MINUTES", "wait ", ";", 1, 60);
        orderNumber("TIMES", "again ", "(wash;);", 0, 20);
        test("Promise 4, text: the least and the most numbers are told to the order itself", EdgeTextsTest::numbersArrive);
    }

    private static void numbersArrive() {
        HotSteps x = Check.houseOf("1 16 16 4 6 1 60 0", 99);
        due("hang and take", Check.play(x, "enter a;hang a 0;take a 15;"), 3);
        due("peg(15)", x.peg(15), NONE);
        due("hang and take the other way", Check.play(x, "hang a 15;take a 0;"), 2);
        due("peg(15), then", x.peg(15), 15);
        Check.play(x, "sit a 6;");
        due("guest(0, 1)", x.guest(0, 1), 6);
        Check.play(x, "sit a 1;");
        due("guest(0, 1), then", x.guest(0, 1), 1);
        Check.play(x, "valve 0 9;valve 3 9;valve 0 0;");
        due("opening(0)", x.opening(0), 0);
        due("opening(3)", x.opening(3), 9);
        Check.play(x, "wait 60;wait 1;");
        due("size(9)", x.size(9), 61);
        due("again 20", Check.play(x, "again 20(wash;);again 0(wait 60;);again 1(wash;);"), 21);
        due("size(9), then", x.size(9), 61);
    }

    private static void scriptOrders() {
        test("Promise 4, empty: an empty script and one of blanks does no order, and is recorded", () -> {
            HotSteps x = new HotSteps();
            due("play() of nothing", x.play(), 0);
            due("play() of blanks", Check.play(x, " \n "), 0);
            due("size(16)", x.size(16), 2);
            due("errorPosition()", x.errorPosition(), NONE);
        });
        test("Promise 4, text: each order's word with one letter less, more and another is none", EdgeTextsTest::orderWords);
        test("Promise 4, text: a NAME of 1 and of 6 letters, of none and of 7, at each order with a NAME", EdgeTextsTest::orderNames);
        test("Promise 4, error 1: the text ends too early behind each token, at its length, blanks counted", EdgeTextsTest::scriptEnds);
        test("Promise 4, error 1: an order without ; and one with two", () -> {
            playFails("wash wash;", 1, 5);
            playFails("wash", 1, 4);
            playFails("wash;;", 1, 5);
            playFails("wash)", 1, 4);
            playFails("wash(", 1, 4);
        });
        test("Promise 4, error 1: a number, a bracket or ; where an order must begin", () -> {
            playFails("1;", 1, 0);
            playFails(";", 1, 0);
            playFails("(wash;);", 1, 0);
            playFails("wash;)", 1, 5);
        });
        test("Promise 4, errors: the first one along the text is told, though smaller codes follow", () -> {
            playFails("wait 61;&", 2, 5);
            playFails("enter abcdefg &", 2, 6);
            playFails("wait &;wait 61;", 1, 5);
            playFails("valve 4 &;", 2, 6);
        });
        test("Promise 4: an error behind good orders, none of them is done", EdgeTextsTest::playErrorDoesNothing);
        test("Promise 4: a script of 600 bytes", () -> plays("again 20(" + " ".repeat(583) + "wash;);", 20));
    }

    private static void orderWords() {
        String[] orders = {"enter ada", "sit ada 1", "hall ada", "hang ada 0", "take ada 0", "leave ada", "speak ada", "wash", "valve 0 0", "wait 1",
            "again 0()"};
        for (String order : orders) {
            int length = order.indexOf(' ') < 0 ? order.length() : order.indexOf(' ');
            String word = order.substring(0, length);
            String rest = order.substring(length) + ";";
            due("play of " + order, Check.play(new HotSteps(), word + rest) >= 0 ? 1 : 0, 1);
            playFails(word.substring(1) + rest, 1, 0);
            playFails(word.substring(0, length - 1) + rest, 1, 0);
            playFails(word + "s" + rest, 1, 0);
            playFails("z" + word.substring(1) + rest, 1, 0);
            playFails(word.substring(0, length - 1) + "z" + rest, 1, 0);
        }
    }

    private static void orderNames() {
        String[] orders = {"enter %;", "sit % 1;", "hall %;", "hang % 0;", "take % 0;", "leave %;", "speak %;"};
        for (String order : orders) {
            plays(order.replace("%", "z"), 0);
            plays(order.replace("%", "abcdef"), 0);
            playFails(order.replace("%", "abcdefg"), 2, order.indexOf('%'));
            playFails(order.replace("%", ""), 1, order.indexOf('%') + (order.indexOf("% ") > 0 ? 1 : 0));
            playFails(order.replace("%", "5"), 1, order.indexOf('%'));
        }
    }

    private static void scriptEnds() {
        String[] tokens = "sit ada 1 ; valve 0 9 ; wait 1 ; again 2 ( wash ; again 2 ( wash ; ) ; ) ;".split(" ");
        StringBuilder text = new StringBuilder();
        int open = 0;
        for (int i = 0; i < tokens.length; i++) {
            text.append(i == 0 ? "" : " ").append(tokens[i]);
            open += tokens[i].equals("(") ? 1 : tokens[i].equals(")") ? -1 : 0;
            if (tokens[i].equals(";") && open == 0) {
                due("play of '" + text + "'", Check.play(new HotSteps(), text.toString()) >= 0 ? 1 : 0, 1);
            } else {
                playFails(text.toString(), 1, text.length());
                playFails(text + " \n ", 1, text.length() + 3);
            }
        }
    }

    private static void playErrorDoesNothing() {
        HotSteps x = Check.houseOf("2 3 2 1 1 1 2 30", 5, 5);
        x.enter(0);
        String before = Check.look(x);
        due("play()", Check.play(x, "wait 5;enter b;valve 0 9;hall a;again 2(wait 1;);wait 61;"), -22);
        due("errorPosition()", x.errorPosition(), 54);
        Check.dueText("all behind it", Check.look(x), before);
    }

    private static void scriptBrackets() {
        test("Promise 4, text: brackets with nothing in them, at each depth", () -> {
            plays("again 20();", 0);
            plays("again 20(again 20(););", 0);
            plays("again 1(again 1();again 1(););wash;", 1);
        });
        test("Promise 4, error 4: the bracket inside 2 others, though TIMES is 0 there; inside 1 other it is allowed", () -> {
            plays("again 2(again 2(wash;););", 4);
            playFails("again 2(again 2(again 2(wash;);););", 4, 23);
            playFails("again 0(again 0(again 0();););", 4, 23);
        });
        test("Promise 4, error 4: two brackets that are closed do not count", () -> {
            plays("again 1(again 1(););again 1(again 1(););", 0);
            plays("again 1(again 1();again 1();again 1(wash;););", 1);
        });
        test("Promise 4, error 1: a bracket inside 2 others where none may stand has the smaller code", () -> {
            playFails("again 1(again 1((", 1, 16);
            playFails("again 1(again 1(wash(", 1, 20);
            playFails("again 1(again 1(again(", 1, 21);
        });
        test("Promise 4, error 2: TIMES of 21 ahead of the bracket inside 2 others", () -> playFails("again 1(again 1(again 21(", 2, 22));
        test("Promise 4, error 1: in place of the bracket inside 2 others something else", () -> {
            playFails("again 1(again 1(again 1 wash;);););", 1, 24);
            playFails("again 1(again 1(again 1;);););", 1, 23);
            playFails("again 1(again 1(again 1", 1, 23);
        });
        test("Promise 4, error 1: a bracket that is not closed, or closed twice", () -> {
            playFails("again 1(wash;", 1, 13);
            playFails("again 1(wash;;", 1, 13);
            playFails("again 1(wash;));", 1, 14);
            playFails("again 1(again 1(wash;);", 1, 23);
        });
    }

    private static void scriptLimits() {
        String thirty = "wash;".repeat(30);
        test("Promise 4, error 4: 30 orders are allowed, the first word of the 31st is not", () -> {
            plays("wash;".repeat(29), 29);
            plays(thirty, 30);
            playFails(thirty + "wash;", 4, 150);
            playFails(thirty + "wait 61;", 4, 150);
            playFails(thirty + "enter", 4, 150);
            playFails(thirty + "again 21(", 4, 150);
        });
        test("Promise 4, error 1: in place of the 31st order a word that is none has the smaller code", () -> {
            playFails(thirty + "washes;", 1, 150);
            playFails(thirty + "ada;", 1, 150);
            playFails(thirty + "1", 1, 150);
            playFails(thirty + "&", 1, 150);
        });
        test("Promise 4, error 4: those in brackets and again itself count, at each depth", () -> {
            plays("again 1(" + "wash;".repeat(29) + ");", 29);
            playFails("again 1(" + "wash;".repeat(30) + ");", 4, 8 + 145);
            plays("again 1(again 1(" + "wash;".repeat(28) + "););", 28);
            playFails("again 1(again 1(" + "wash;".repeat(28) + "););wash;", 4, 16 + 140 + 4);
            playFails("wash;".repeat(29) + "again 1(wash;);", 4, 145 + 8);
        });
        test("Promise 4, error 4: again as the 31st order", () -> playFails(thirty + "again 0();", 4, 150));
        test("Promise 4, error 4: 30 times again, each counts though none does anything", () -> {
            plays("again 0();".repeat(30), 0);
            playFails("again 0();".repeat(30) + "wash;", 4, 300);
        });
        test("Promise 4, error 4: orders that are done again are counted once", () -> plays("again 20(wash;wash;);" + "wash;".repeat(27), 40));
    }

    // ---- promise 5

    private static void errorPosition() {
        test("Promise 5: NONE without such a call, 0 and 600 at the edges of the text", () -> {
            HotSteps x = new HotSteps();
            due("errorPosition() at first", x.errorPosition(), NONE);
            x.load();
            due("errorPosition() of the empty text", x.errorPosition(), 0);
            Check.put(x, " ".repeat(600));
            x.load();
            due("errorPosition() of 600 blanks", x.errorPosition(), 600);
            Check.put(x, " ".repeat(599) + "&");
            x.play();
            due("errorPosition() of the last byte", x.errorPosition(), 599);
        });
        test("Promise 5: of the latest call, of load and of play, with an error and without", () -> {
            HotSteps x = new HotSteps();
            Check.play(x, "wash");
            due("errorPosition() of play", x.errorPosition(), 4);
            Check.load(x, "bath 0");
            due("errorPosition() of load", x.errorPosition(), 5);
            Check.play(x, "wash;");
            due("errorPosition() of a play without", x.errorPosition(), NONE);
            Check.play(x, "wash;1");
            Check.load(x, BATH);
            due("errorPosition() of a load without", x.errorPosition(), NONE);
        });
        test("Promise 5: NONE when an order is refused, or tells what there is not", () -> {
            HotSteps x = new HotSteps();
            Check.play(x, "&");
            Check.play(x, "hall ada;");
            due("errorPosition(), refused", x.errorPosition(), NONE);
            Check.play(x, "&");
            Check.play(x, "hall zoe;");
            due("errorPosition(), no such GUEST", x.errorPosition(), NONE);
        });
        test("Promise 5: other calls leave it, undo, save, restore and feed too", () -> {
            HotSteps x = new HotSteps();
            x.waits(1);
            x.save(0);
            Check.play(x, "wash");
            x.undo();
            x.restore(0);
            Check.put(x, "wash;");
            x.find();
            x.report();
            due("errorPosition()", x.errorPosition(), 4);
        });
    }
}
