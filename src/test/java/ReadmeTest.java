import java.io.ByteArrayOutputStream;
import java.io.IOException;
import java.io.PrintStream;
import java.lang.reflect.Method;
import java.lang.reflect.Modifier;
import java.nio.file.DirectoryStream;
import java.nio.file.Files;
import java.nio.file.Path;
import java.util.ArrayList;
import java.util.List;
import java.util.regex.Matcher;
import java.util.regex.Pattern;

/** README.md names every call and every test, and its example answers what it says. Run from the project's own folder. */
public final class ReadmeTest {
    private static final Checks CHECKS = new Checks();

    public static void main(String[] args) throws IOException {
        String readme = Files.readString(Path.of("README.md"));
        String example = Files.readString(Path.of("src/test/java/Example.java"));
        CHECKS.holds("the example stands in README.md as it stands in Example.java",
            readme.contains("```java\n" + example + "```\n"));
        exampleAnswersAsItSays(example);
        everyCallIsNamed(readme);
        everyTestIsNamed(readme);
        CHECKS.finish();
    }

    private static void exampleAnswersAsItSays(String example) {
        List<String> answers = outputOfExample().lines().toList();
        List<String> said = new ArrayList<>();
        Matcher shown = Pattern.compile("show\\(.*\\);\\s*// (-?\\d+)").matcher(example);
        while (shown.find()) {
            said.add(shown.group(1));
        }
        CHECKS.holds("the example shows something", !said.isEmpty());
        CHECKS.holds("the example says " + said + ", answers " + answers, said.equals(answers));
    }

    private static String outputOfExample() {
        PrintStream console = System.out;
        ByteArrayOutputStream bytes = new ByteArrayOutputStream();
        System.setOut(new PrintStream(bytes, true));
        Example.main(new String[0]);
        System.setOut(console);
        return bytes.toString();
    }

    private static void everyCallIsNamed(String readme) {
        for (Method method : RoomsOfAir.class.getDeclaredMethods()) {
            if (Modifier.isPublic(method.getModifiers())) {
                CHECKS.holds(method.getName() + " is told in README.md", readme.contains("| `" + method.getName() + "("));
            }
        }
    }

    private static void everyTestIsNamed(String readme) throws IOException {
        CHECKS.holds("README.md tells how to run the tests", readme.contains("\n.ci/run\n"));
        try (DirectoryStream<Path> tests = Files.newDirectoryStream(Path.of("src/test/java"), "*Test.java")) {
            for (Path test : tests) {
                String name = test.getFileName().toString().replace(".java", "");
                CHECKS.holds(name + " is told in README.md", readme.contains("`" + name + "`"));
            }
        }
    }
}
