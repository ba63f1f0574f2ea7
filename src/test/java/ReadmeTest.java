import java.io.ByteArrayOutputStream;
import java.io.File;
import java.io.PrintStream;
import java.lang.reflect.Method;
import java.lang.reflect.Modifier;
import java.nio.file.Files;
import java.nio.file.Path;
import java.util.regex.Matcher;
import java.util.regex.Pattern;

/** What README.md shows a reader is so; run from the project's root. */
public final class ReadmeTest {
    private static final Checks CHECKS = new Checks("ReadmeTest");

    public static void main(String[] args) throws Exception {
        String page = Files.readString(Path.of("README.md"));
        example(page);
        calls(page);
        constants(page);
        tests(page);
        CHECKS.end();
    }

    private static void example(String page) throws Exception {
        CHECKS.promise("README: the example");
        String source = Files.readString(Path.of("src/test/java/Example.java"));
        CHECKS.holds("shown as it is", page.contains("```java\n" + source + "```\n"));
        CHECKS.holds("what it prints", page.contains("```text\n" + printed() + "```\n"));
    }

    private static String printed() {
        PrintStream console = System.out;
        ByteArrayOutputStream caught = new ByteArrayOutputStream();
        System.setOut(new PrintStream(caught, true));
        Example.main(new String[0]);
        System.setOut(console);
        return caught.toString().replace(System.lineSeparator(), "\n");
    }

    /** Each row of a call: its name, with as many numbers as it takes. */
    private static void calls(String page) {
        CHECKS.promise("README: the calls");
        int methods = 0;
        for (Method method : ParasolHours.class.getDeclaredMethods()) {
            if (Modifier.isPublic(method.getModifiers())) {
                methods++;
                int numbers = method.getParameterCount();
                String row = "\\| \\d+ \\| `" + method.getName() + "\\(" + (numbers == 0 ? "" : "\\w+")
                    + "(, \\w+){" + Math.max(0, numbers - 1) + "}\\)` \\|";
                CHECKS.due("rows of " + method.getName(), found(page, row), 1);
            }
        }
        CHECKS.due("rows of calls", found(page, "\n\\| \\d+ \\| `"), methods);
    }

    private static int found(String page, String pattern) {
        Matcher matcher = Pattern.compile(pattern).matcher(page);
        int many = 0;
        while (matcher.find()) {
            many++;
        }
        return many;
    }

    private static void constants(String page) {
        CHECKS.promise("README: the answers");
        CHECKS.holds("BAD", page.contains("| `BAD` | " + ParasolHours.BAD + " |"));
        CHECKS.holds("NO", page.contains("| `NO` | " + ParasolHours.NO + " |"));
        CHECKS.holds("NONE", page.contains("| `NONE` | " + ParasolHours.NONE + " |"));
        CHECKS.holds("FULL", page.contains("| `FULL` | " + ParasolHours.FULL + " |"));
    }

    private static void tests(String page) {
        CHECKS.promise("README: the tests");
        String[] files = new File("src/test/java").list();
        CHECKS.holds("there are tests", files != null);
        int many = 0;
        for (String file : files == null ? new String[0] : files) {
            if (file.endsWith("Test.java")) {
                many++;
                String name = file.substring(0, file.length() - ".java".length());
                CHECKS.due("rows of " + name, found(page, "\n\\| " + name + " \\|"), 1);
            }
        }
        CHECKS.due("rows of tests", found(page, "\n\\| \\w+Test \\|"), many);
    }
}
