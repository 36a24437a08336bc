import java.io.File;
import java.io.IOException;
import java.lang.reflect.Method;
import java.nio.charset.StandardCharsets;
import java.nio.file.Files;
import java.nio.file.Path;
import java.util.ArrayList;
import java.util.List;
import java.util.regex.Matcher;
import java.util.regex.Pattern;

/** What README.md says of use and of tests is so: its example, its table of calls, its table of tests. */
public final class ReadmeTest {
    private static final Path README = Path.of("README.md");
    private static final Path DOCUMENT = Path.of("../shared/DOC.md");
    private static final Path TESTS = Path.of("src/test/java");

    private ReadmeTest() {
    }

    public static void main(String[] args) throws IOException, ReflectiveOperationException {
        String readme = Files.readString(README, StandardCharsets.UTF_8);
        example(javaBlock(readme));
        calls(readme);
        tests(readme);
        Due.finish();
    }

    private static String javaBlock(String page) {
        int begin = page.indexOf("```java");
        int end = page.indexOf("```", begin + 1);
        Due.isTrue("there is a block of Java", begin >= 0 && end > begin);
        return begin >= 0 && end > begin ? page.substring(begin, end) : "";
    }

    /** Tells the example's text and asks its calls, each of which has behind it what it answers. */
    private static void example(String block) throws ReflectiveOperationException {
        GreenHorseUpstairs x = new GreenHorseUpstairs();
        Matcher text = Pattern.compile("\"([^\"]*)\"").matcher(block);
        Due.isTrue("the example tells a text", text.find());
        for (char letter : text.group(1).toCharArray()) {
            x.letter(letter);
        }
        int asked = 0;
        Matcher call = Pattern.compile("x\\.(\\w+)\\(([^)]*)\\); *// (-?\\d+)").matcher(block);
        while (call.find()) {
            Due.due("README: " + call.group(1), ask(x, call.group(1), call.group(2)), Integer.parseInt(call.group(3)));
            asked++;
        }
        Due.due("calls with answers in the example", asked, 7);
    }

    private static int ask(GreenHorseUpstairs x, String name, String told) throws ReflectiveOperationException {
        List<Object> arguments = new ArrayList<>();
        for (String argument : told.split(",")) {
            if (!argument.isBlank()) {
                arguments.add(Integer.parseInt(argument.trim()));
            }
        }
        Class<?>[] types = new Class<?>[arguments.size()];
        java.util.Arrays.fill(types, int.class);
        Method method = GreenHorseUpstairs.class.getMethod(name, types);
        return (int) method.invoke(x, arguments.toArray());
    }

    /** Each call of the document's face begins one row of the table, and no other call does. */
    private static void calls(String readme) throws IOException {
        String face = javaBlock(Files.readString(DOCUMENT, StandardCharsets.UTF_8));
        Matcher call = Pattern.compile("public int (\\w+\\([^)]*\\));").matcher(face);
        int calls = 0;
        while (call.find()) {
            String row = "\n| `" + call.group(1).replace("int ", "") + "` | ";
            Due.isTrue("README has" + row, readme.contains(row));
            calls++;
        }
        int rows = 0;
        Matcher row = Pattern.compile("\n\\| `\\w+\\(").matcher(readme);
        while (row.find()) {
            rows++;
        }
        Due.due("calls in the document", calls, 34);
        Due.due("calls in README", rows, calls);
    }

    private static void tests(String readme) {
        Due.isTrue("README has .ci/run", readme.contains("`.ci/run`"));
        File[] files = TESTS.toFile().listFiles();
        int tests = 0;
        for (File file : files == null ? new File[0] : files) {
            String name = file.getName().replace(".java", "");
            Due.isTrue("README has " + name, readme.contains("`" + name + "`"));
            boolean hasRow = readme.contains("\n| `" + name + "` | ");
            Due.isTrue("README's table has " + name, hasRow == name.endsWith("Test"));
            tests += name.endsWith("Test") ? 1 : 0;
        }
        Due.isTrue("there are tests", tests > 0);
    }
}
