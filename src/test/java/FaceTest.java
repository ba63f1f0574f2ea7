import java.lang.reflect.Constructor;
import java.lang.reflect.Field;
import java.lang.reflect.Method;
import java.lang.reflect.Modifier;
import java.nio.charset.StandardCharsets;
import java.nio.file.Files;
import java.nio.file.Path;
import java.util.ArrayList;
import java.util.List;
import java.util.Set;
import java.util.TreeSet;

/** The public face, and the rules of LANGUAGE.md that can be seen from outside; run from the project's root. */
public final class FaceTest {
    private static final Checks CHECKS = new Checks("FaceTest");
    private static final String[] FACE = {
        "write(int)", "wipe()", "fault()", "lay()", "parasol(int,int)", "person(int,int)", "work(int,int)",
        "take(int,int)", "share(int,int)", "give(int)", "walk(int,int)", "mend(int)", "pass(int)", "undo()",
        "until(int,int)", "agree(int,int)", "deal(int)", "make(int)", "still(int)", "soonest(int,int)",
        "see(int,int)", "forget()", "which()", "set(int)", "flecks(int,int,int,int,int)", "day(int,int,int)",
        "keep()", "back()", "count(int)"};

    public static void main(String[] args) throws Exception {
        constants();
        face();
        insides();
        source();
        CHECKS.end();
    }

    private static void constants() {
        CHECKS.promise("the constants");
        CHECKS.due("BAD", ParasolHours.BAD, -1);
        CHECKS.due("NO", ParasolHours.NO, -2);
        CHECKS.due("FULL", ParasolHours.FULL, -3);
        CHECKS.due("NONE", ParasolHours.NONE, -4);
    }

    private static String told(Method method) {
        List<String> types = new ArrayList<>();
        for (Class<?> type : method.getParameterTypes()) {
            types.add(type.getName());
        }
        return method.getName() + "(" + String.join(",", types) + ")";
    }

    private static boolean hidden(int modifiers, boolean made) {
        return made || Modifier.isPrivate(modifiers);
    }

    private static void face() {
        CHECKS.promise("the face");
        Class<?> type = ParasolHours.class;
        CHECKS.holds("public and final",
            Modifier.isPublic(type.getModifiers()) && Modifier.isFinal(type.getModifiers()));
        Set<String> open = new TreeSet<>();
        for (Method method : type.getDeclaredMethods()) {
            if (!hidden(method.getModifiers(), method.isSynthetic())) {
                open.add(told(method));
                CHECKS.holds(told(method) + " is public and answers an int",
                    method.getModifiers() == Modifier.PUBLIC && method.getReturnType() == int.class);
            }
        }
        CHECKS.holds("the methods are " + open, open.equals(new TreeSet<>(List.of(FACE))));
        Set<String> fields = new TreeSet<>();
        for (Field field : type.getDeclaredFields()) {
            if (!hidden(field.getModifiers(), field.isSynthetic())) {
                fields.add(field.getName());
                CHECKS.holds(field.getName() + " is a constant",
                    field.getModifiers() == (Modifier.PUBLIC | Modifier.STATIC | Modifier.FINAL));
            }
        }
        CHECKS.holds("the constants are " + fields, fields.equals(new TreeSet<>(List.of("BAD", "NO", "FULL", "NONE"))));
        Constructor<?>[] makers = type.getDeclaredConstructors();
        CHECKS.due("constructors", makers.length, 1);
        CHECKS.due("what it takes", makers[0].getParameterCount(), 0);
    }

    private static void insides() {
        CHECKS.promise("the classes inside");
        Set<String> names = new TreeSet<>();
        for (String call : FACE) {
            names.add(call.substring(0, call.indexOf('(')));
        }
        Class<?>[] inside = ParasolHours.class.getDeclaredClasses();
        CHECKS.holds("twelve classes at most", inside.length < 12);
        for (Class<?> type : inside) {
            CHECKS.holds(type + " is static", Modifier.isStatic(type.getModifiers()));
            CHECKS.holds(type + " is not open", !Modifier.isPublic(type.getModifiers()));
            CHECKS.holds(type + " has some twenty fields", type.getDeclaredFields().length <= 20);
            for (Method method : type.getDeclaredMethods()) {
                CHECKS.holds(told(method) + " bears a name of its own", !names.contains(method.getName()));
                CHECKS.holds(told(method) + " takes seven at most", method.getParameterCount() <= 7);
            }
        }
    }

    private static void source() throws Exception {
        CHECKS.promise("the source");
        String all = Files.readString(Path.of("src/main/java/ParasolHours.java"), StandardCharsets.US_ASCII);
        String[] barred = {"import ", "package ", "->", "::", "Exact", "finally", "synchronized", "assert", "throw ",
            "try ", "catch", "hashCode", "toString", "equals(", "System.", "Arrays.", "Object", "null.", "Thread"};
        for (String word : barred) {
            CHECKS.holds("no " + word, !all.contains(word));
        }
        for (String line : all.split("\n")) {
            CHECKS.holds("not too wide: " + line, line.length() <= 120);
        }
    }
}
