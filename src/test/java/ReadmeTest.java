import java.io.IOException;
import java.lang.reflect.Method;
import java.lang.reflect.Modifier;
import java.nio.file.DirectoryStream;
import java.nio.file.Files;
import java.nio.file.Path;
import java.util.regex.Matcher;
import java.util.regex.Pattern;

/** README.md: its example's answers, and that it names every method and every test. */
public final class ReadmeTest {
    private static final Pattern CALL = Pattern.compile("x\\.(\\w+)\\(([^)]*)\\); +// (-?\\d+)\\b.*");
    private static final String MADE = "DaysOnBread x = new DaysOnBread();";
    private static int wrong;

    public static void main(String[] args) throws IOException {
        Watch.start();
        String text = Files.readString(Path.of("README.md"));
        int calls = example(text);
        for (Method m : DaysOnBread.class.getDeclaredMethods()) {
            if (Modifier.isPublic(m.getModifiers())) {
                must(text.contains("`" + m.getName() + "("), "README.md names " + m.getName());
            }
        }
        try (DirectoryStream<Path> tests = Files.newDirectoryStream(Path.of("src/test/java"), "*Test.java")) {
            for (Path test : tests) {
                String name = test.getFileName().toString().replace(".java", "");
                must(text.contains("`" + name + "`"), "README.md names " + name);
            }
        }
        must(text.contains(".ci/run"), "README.md names .ci/run");
        System.out.println(calls + " calls of README.md, " + wrong + " wrong");
        if (wrong != 0) {
            System.exit(1);
        }
    }

    private static void must(boolean stands, String what) {
        if (!stands) {
            wrong++;
            System.out.println("does not stand: " + what);
        }
    }

    /** How many calls the example has, each of them with its answer. */
    private static int example(String text) {
        Matcher block = Pattern.compile("(?s)```java\n(.*?)```").matcher(text);
        must(block.find(), "an example");
        Script calls = new Script();
        for (String line : block.group(1).split("\n")) {
            Matcher m = CALL.matcher(line);
            if (m.matches()) {
                String numbers = m.group(2).replace(" ", "").replace("L", "");
                calls.go(m.group(1) + "(" + numbers + ")=" + m.group(3));
            } else {
                must(line.isEmpty() || line.equals(MADE), "a call with its answer: " + line);
            }
        }
        for (String line : calls.wrong()) {
            must(false, "README.md: " + line);
        }
        must(calls.size() > 0, "calls in the example");
        return calls.size();
    }
}
