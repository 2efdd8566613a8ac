import java.lang.reflect.Constructor;
import java.lang.reflect.Field;
import java.lang.reflect.Method;
import java.lang.reflect.Modifier;
import java.util.ArrayList;
import java.util.List;
import java.util.NoSuchElementException;
import java.util.Set;
import java.util.TreeSet;

/** The face is that of the document, and nothing more can be seen (LANGUAGE.md, rules 1, 5 and 11). */
public final class FaceTest {
    /** Each method with its parameters; behind a colon what it tells to throw. */
    private static final String[] FACE = {
        "int feed(int,int,int,int,int)", "int load()", "int play()", "int errorPosition()", "int size(int): IAE", "int guest(int,int): IAE",
        "int towel(int,int): IAE", "int peg(int): IAE", "int locker(int): IAE", "int opening(int): IAE", "int step(int,int): IAE", "int driest()",
        "int letter(int,int): IAE", "int find()", "int why(int,int,int): IAE", "int highest(int): IAE", "int account(int): IAE", "int gap()",
        "double meanWet()", "int heatBits()", "int heatIn(int): IAE", "int downIn(int): IAE", "int dryIn(int): IAE", "int silenceIn()",
        "int ifValve(int,int): IAE", "int enter(int): IAE", "int sit(int,int): IAE", "int hall(int): IAE", "int hang(int,int): IAE",
        "int take(int,int): IAE", "int leave(int): IAE", "int speak(int): IAE", "int wash()", "int valve(int,int): IAE", "int waits(int): IAE",
        "int set(int,int): IAE", "int report()", "int reportByte(int)", "int undo()", "int save(int): IAE", "int restore(int): IAE NSEE"};

    public static void main(String[] args) {
        methods();
        fieldsAndConstructors();
        classesInside();
        Check.end("FaceTest");
    }

    private static void methods() {
        Set<String> seen = new TreeSet<>();
        for (Method method : HotSteps.class.getDeclaredMethods()) {
            if (Modifier.isPrivate(method.getModifiers())) {
                continue;
            }
            List<String> types = new ArrayList<>();
            for (Class<?> type : method.getParameterTypes()) {
                types.add(type.getName());
            }
            StringBuilder one = new StringBuilder(method.getReturnType() + " " + method.getName() + "(" + String.join(",", types) + ")");
            for (int i = 0; i < method.getExceptionTypes().length; i++) {
                Class<?> thrown = method.getExceptionTypes()[i];
                one.append(i == 0 ? ": " : " ");
                one.append(thrown == IllegalArgumentException.class ? "IAE" : thrown == NoSuchElementException.class ? "NSEE" : thrown.getName());
            }
            seen.add(one.toString());
            Check.due(method.getName() + " is public and nothing more", method.getModifiers(), Modifier.PUBLIC);
        }
        Check.dueText("the methods", seen.toString(), new TreeSet<>(List.of(FACE)).toString());
    }

    private static void fieldsAndConstructors() {
        Check.due("the class is public and final", HotSteps.class.getModifiers(), Modifier.PUBLIC | Modifier.FINAL);
        Check.due("constructors", HotSteps.class.getDeclaredConstructors().length, 1);
        for (Constructor<?> one : HotSteps.class.getDeclaredConstructors()) {
            Check.due("the constructor", one.getModifiers() * 10 + one.getParameterCount(), Modifier.PUBLIC * 10);
        }
        Check.due("NONE", HotSteps.NONE, -1);
        for (Field field : HotSteps.class.getDeclaredFields()) {
            boolean isNone = field.getName().equals("NONE");
            Check.due(field.getName() + " is private", Modifier.isPrivate(field.getModifiers()) ? 1 : 0, isNone ? 0 : 1);
        }
    }

    private static void classesInside() {
        Set<String> face = new TreeSet<>();
        for (String one : FACE) {
            face.add(one.substring(one.indexOf(' ') + 1, one.indexOf('(')));
        }
        List<Class<?>> classes = new ArrayList<>(List.of(HotSteps.class.getDeclaredClasses()));
        Check.due("at most twelve classes", Math.max(12, classes.size() + 1), 12);
        for (Class<?> inside : classes) {
            Check.due(inside + " is static", Modifier.isStatic(inside.getModifiers()) ? 1 : 0, 1);
            Check.due(inside + " is not public", inside.getModifiers() & (Modifier.PUBLIC | Modifier.PROTECTED), 0);
            for (Method method : inside.getDeclaredMethods()) {
                Check.due(inside + "." + method.getName() + " has no name of the face", face.contains(method.getName()) ? 1 : 0, 0);
            }
        }
        classes.add(HotSteps.class);
        for (Class<?> one : classes) {
            int fields = 0;
            for (Field field : one.getDeclaredFields()) {
                if (Modifier.isStatic(field.getModifiers())) {
                    Check.due(one + "." + field.getName() + " is final", Modifier.isFinal(field.getModifiers()) ? 1 : 0, 1);
                } else {
                    fields++;
                }
            }
            Check.due(one + " has at most twenty fields", Math.max(20, fields), 20);
            for (Method method : one.getDeclaredMethods()) {
                Check.due(method + " takes at most seven", Math.max(7, method.getParameterCount()), 7);
            }
        }
        for (Method method : HotSteps.class.getDeclaredMethods()) {
            if (Modifier.isPrivate(method.getModifiers())) {
                Check.due(method.getName() + " has no name of the face", face.contains(method.getName()) ? 1 : 0, 0);
            }
        }
    }
}
