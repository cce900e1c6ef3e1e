import java.lang.reflect.Field;
import java.lang.reflect.Method;
import java.lang.reflect.Modifier;
import java.nio.file.Files;
import java.nio.file.Path;
import java.util.regex.Matcher;
import java.util.regex.Pattern;

/** README.md: its examples answer as it says; calls and constants stand there as the document has them. */
public final class ReadmeTest {
    private static final Pattern EXAMPLE = Pattern.compile("x\\.(\\w+\\([^)]*\\));\\s*// (-?\\d+)(?:: (.*))?");
    private static final Pattern PROMISE = Pattern.compile("(?m)^`(int \\w+\\([^)]*\\))`: (.+)$");

    public static void main(String[] args) throws Exception {
        String page = Files.readString(Path.of("README.md"));
        String document = Files.readString(Path.of("../shared/DOC.md"));
        examples(page);
        calls(page, document);
        everyCallIsShown(page);
        constants(page);
        howToRun(page);
        Run.end();
    }

    private static void examples(String page) {
        Run.sentence("An example");
        Run run = new Run();
        int shown = 0;
        for (String line : page.split("\n")) {
            if (line.startsWith("x.")) {
                Matcher example = EXAMPLE.matcher(line);
                if (example.matches()) {
                    run.due(example.group(1), Integer.parseInt(example.group(2)));
                    shown++;
                } else {
                    Run.fault("an example without its answer: " + line);
                }
            }
        }
        if (shown == 0) {
            Run.fault("there is no example");
        }
    }

    private static void calls(String page, String document) {
        Run.sentence("The calls, in the document's words");
        Matcher promise = PROMISE.matcher(document);
        int promised = 0;
        while (promise.find()) {
            promised++;
            if (!page.contains("| `" + promise.group(1) + "` | " + promise.group(2) + " |\n")) {
                Run.fault("not told as in the document: " + promise.group(1));
            }
        }
        if (promised == 0) {
            Run.fault("the document's promises were not found");
        }
    }

    private static void everyCallIsShown(String page) {
        Run.sentence("The calls, all of them");
        for (Method method : LetterDays.class.getDeclaredMethods()) {
            if (Modifier.isPublic(method.getModifiers()) && !page.contains("| `int " + method.getName() + "(")) {
                Run.fault("not told: " + method.getName());
            }
        }
    }

    private static void constants(String page) throws IllegalAccessException {
        Run.sentence("What the answers mean");
        for (Field field : LetterDays.class.getDeclaredFields()) {
            if (Modifier.isPublic(field.getModifiers())
                    && !page.contains("| `" + field.getName() + "` | " + field.getInt(null) + " | ")) {
                Run.fault("not told with its value: " + field.getName());
            }
        }
    }

    private static void howToRun(String page) throws Exception {
        Run.sentence("How to run its tests");
        if (!page.contains("\n.ci/run\n")) {
            Run.fault("not told: .ci/run");
        }
        try (var tests = Files.list(Path.of("src/test/java"))) {
            for (Path test : (Iterable<Path>) tests::iterator) {
                String name = test.getFileName().toString().replace(".java", "");
                if (!page.contains("- `" + name + "`: ")) {
                    Run.fault("not told: " + name);
                }
            }
        }
    }
}
