import java.io.File;
import java.io.IOException;
import java.lang.reflect.Method;
import java.lang.reflect.Modifier;
import java.nio.file.Files;
import java.nio.file.Path;

/** What README.md says of the class and of the tests is so; run where README.md is. */
public final class ReadmeTest {
    private static String readme = "";

    public static void main(String[] args) throws IOException {
        readme = Files.readString(Path.of("README.md"));
        Check.test("README: the first object", ReadmeTest::firstObject);
        Check.test("README: texts", ReadmeTest::texts);
        Check.test("README: every call is told", ReadmeTest::everyCall);
        Check.test("README: calls that are not done", ReadmeTest::notDone);
        Check.test("README: every test is told", ReadmeTest::everyTest);
        Check.end("ReadmeTest");
    }

    private static void says(String words) {
        Check.due("README.md says '" + words + "'", readme.contains(words) ? 1 : 0, 1);
    }

    /** A line of the page: a call, and behind // what it answers. */
    private static void told(String call, int got, int want) {
        Check.due(call, got, want);
        String rest = readme.contains(call) ? readme.substring(readme.indexOf(call) + call.length()) : "";
        Check.due("README.md tells what " + call + " answers", rest.stripLeading().startsWith("// " + want + ": ") ? 1 : 0, 1);
    }

    private static void firstObject() {
        HotSteps x = new HotSteps();
        says("4 lockers, 6 pegs, 5 towels, 2 valves, 4 steps");
        int[] sizes = {5, 4, 6, 5, 2, 4};
        for (int what = 0; what < sizes.length; what++) {
            Check.due("size(" + what + ")", x.size(what), sizes[what]);
        }
        told("int locker = x.enter(0);", x.enter(0), 0);
        told("int warm = x.sit(0, 4);", x.sit(0, 4), 54);
        told("x.valve(0, 9);", x.valve(0, 9), 0);
        told("int down = x.downIn(0);", x.downIn(0), 7);
        told("x.waits(10);", x.waits(10), 2);
        told("int left = x.undo();", x.undo(), 3);
        told("int no = x.leave(0);", x.leave(0), -2);
        told("int why = x.why(0, 1, 0);", x.why(0, 1, 0), 9);
        told("int cause = x.why(0, 1, 1);", x.why(0, 1, 1), 504);
    }

    private static void texts() {
        HotSteps x = new HotSteps();
        says("x.feed(('w' << 24) | ('a' << 16) | ('i' << 8) | 't', (' ' << 24) | ('5' << 16) | (';' << 8), 0, 0, 0);");
        Check.due("feed", x.feed(('w' << 24) | ('a' << 16) | ('i' << 8) | 't', (' ' << 24) | ('5' << 16) | (';' << 8), 0, 0, 0), 7);
        told("int done = x.play();", x.play(), 1);
        String setup = "bath 4 6 5 2 4 2 20 5; guest ada 34; guest ben 8; guest cai 61; guest dov 15; guest eli 22\n";
        says(setup);
        Check.due("load", Check.load(x, setup), 5);
        String script = "enter ada; enter ben; valve 0 5; again 3 (sit ada 2; wait 5; hall ada; wait 1;);\n";
        says(script);
        Check.due("play", Check.play(x, script), 15);
    }

    private static void everyCall() {
        for (Method method : HotSteps.class.getDeclaredMethods()) {
            if (Modifier.isPublic(method.getModifiers())) {
                int told = readme.indexOf("`" + method.getName() + "(");
                String words = told < 0 ? "" : readme.substring(told, readme.indexOf(")", told));
                int parameters = words.endsWith("(") ? 0 : words.split(",").length;
                Check.due("parameters that README.md tells of " + method.getName(), told < 0 ? -1 : parameters, method.getParameterCount());
            }
        }
        says("`HotSteps.NONE` (-1)");
        Check.due("NONE", HotSteps.NONE, -1);
    }

    private static void notDone() {
        HotSteps x = new HotSteps();
        Check.isOutOfRange("enter(5)", () -> x.enter(5));
        Check.isNotFound("restore(0)", () -> x.restore(0));
        says("-2 the\n  guest cannot do it");
        Check.due("leave(0)", x.leave(0), -2);
        says("-3 it is on no step");
        Check.due("hall(0)", x.hall(0), -3);
        says("-4 it is out");
        Check.due("speak(0)", x.speak(0), -4);
        says("-5 the time would\n  be above 9999");
        Check.timeTo(x, 9999);
        Check.due("waits(1)", x.waits(1), -5);
        says("-20 less the error's code");
        Check.due("play of 'wash'", Check.play(x, "wash"), -21);
        Check.due("errorPosition()", x.errorPosition(), 4);
    }

    private static void everyTest() {
        String[] names = new File("src/test/java").list();
        Check.due("src/test/java is there", names == null ? 0 : 1, 1);
        for (String name : names == null ? new String[0] : names) {
            if (name.endsWith("Test.java")) {
                says("`" + name.substring(0, name.length() - ".java".length()) + "`");
            }
        }
    }
}
