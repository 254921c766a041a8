import java.io.ByteArrayOutputStream;
import java.io.File;
import java.io.IOException;
import java.io.PrintStream;
import java.lang.reflect.Method;
import java.lang.reflect.Modifier;
import java.nio.charset.StandardCharsets;
import java.nio.file.Files;
import java.nio.file.Path;
import java.util.regex.Matcher;
import java.util.regex.Pattern;

/** README.md tells of each call, of each test, and shows what the example is and prints. */
public final class ReadmeTests {
    private static final Path TESTS = Path.of("src/test/java");

    public static void main(String[] args) throws IOException {
        String page = Files.readString(Path.of("README.md")).replace("\r\n", "\n");
        example(page);
        calls(page);
        numbers(page);
        tests(page);
        Due.end();
    }

    private static void example(String page) throws IOException {
        Due.about("README.md, the example");
        String source = Files.readString(TESTS.resolve("Example.java")).replace("\r\n", "\n");
        String program = source.substring(source.indexOf("public final class"));
        Due.that("the program is Example.java", page.contains("```java\n" + program + "```\n"));
        Due.that("it prints what is told", page.contains("```text\n" + printed() + "```\n"));
    }

    private static String printed() {
        PrintStream before = System.out;
        ByteArrayOutputStream bytes = new ByteArrayOutputStream();
        System.setOut(new PrintStream(bytes, true, StandardCharsets.UTF_8));
        Example.main(new String[0]);
        System.setOut(before);
        return bytes.toString(StandardCharsets.UTF_8).replace("\r\n", "\n");
    }

    /** Each call of the face has one row of a table, with as many numbers as it takes. */
    private static void calls(String page) {
        Due.about("README.md, the calls");
        int told = 0;
        Matcher row = Pattern.compile("(?m)^\\| `(\\w+)\\(([\\w, ]*)\\)` \\|").matcher(page);
        while (row.find()) {
            told++;
            int numbers = row.group(2).isEmpty() ? 0 : row.group(2).split(", ").length;
            Due.that(row.group() + " is a call", isCall(row.group(1), numbers));
        }
        int calls = 0;
        for (Method method : OverTheHeads.class.getDeclaredMethods()) {
            if (Modifier.isPublic(method.getModifiers())) {
                calls++;
                Due.that(method.getName() + " is told", page.contains("\n| `" + method.getName() + "("));
            }
        }
        Due.is("rows of calls", told, calls);
    }

    private static boolean isCall(String name, int numbers) {
        for (Method method : OverTheHeads.class.getDeclaredMethods()) {
            if (Modifier.isPublic(method.getModifiers()) && method.getName().equals(name)) {
                return method.getParameterCount() == numbers;
            }
        }
        return false;
    }

    private static void numbers(String page) {
        Due.about("README.md, the numbers");
        Due.that("NONE", page.contains("| " + OverTheHeads.NONE + " | `NONE` |"));
        Due.that("BAD", page.contains("| " + OverTheHeads.BAD + " | `BAD` |"));
        Due.that("STATE", page.contains("| " + OverTheHeads.STATE + " | `STATE` |"));
        Due.that("FULL", page.contains("| " + OverTheHeads.FULL + " | `FULL` |"));
        Due.that("NO", page.contains("| " + OverTheHeads.NO + " | `NO` |"));
    }

    private static void tests(String page) {
        Due.about("README.md, the tests");
        Due.that("how to run all", page.contains("\n    bash .ci/run\n") && Files.isRegularFile(Path.of(".ci/run")));
        String[] names = new File(TESTS.toString()).list((in, name) -> name.endsWith("Tests.java"));
        Due.that("tests are found", names != null && names.length > 0);
        for (String name : names == null ? new String[0] : names) {
            Due.that(name + " is told", page.contains("\n- `" + name.replace(".java", "") + "`"));
        }
    }
}
