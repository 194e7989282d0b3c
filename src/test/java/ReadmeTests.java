import java.io.IOException;
import java.net.URISyntaxException;
import java.nio.charset.StandardCharsets;
import java.nio.file.Files;
import java.nio.file.Path;
import java.util.ArrayList;
import java.util.List;
import java.util.regex.Matcher;
import java.util.regex.Pattern;
import javax.tools.JavaCompiler;
import javax.tools.ToolProvider;

/** The examples of README.md: they compile, and every call answers what the README says. */
final class ReadmeTests {
    interface Call {
        Object answer();
    }

    private static final int EXAMPLES = 4;
    private static final Pattern EXAMPLE = Pattern.compile("(?s)```java\n(.*?)```");
    private static final Pattern TOLD_CALL = Pattern.compile(
            "(drum\\.\\w+\\(.*?\\)); *// (throws \\w+|true|false|-?[0-9]+(?:\\.[0-9]+)?): .+");
    // The one call that has no answer of its own: it stands in a loop.
    private static final String CALL_IN_LOOP = "drum.append(sign);";

    private ReadmeTests() {
    }

    static void run(String readme) {
        Check.test("README: what its examples tell is found", () -> Check.same("examples", examples(readme).size(),
                EXAMPLES));
        for (int i = 0; i < EXAMPLES; i++) {
            int number = i;
            Check.test("README: example " + (number + 1), () -> example(number, examples(readme).get(number)));
        }
    }

    /** What the compiled examples call. */
    static void due(String text, String told, Call call) {
        String got;
        try {
            got = String.valueOf(call.answer());
        } catch (RuntimeException e) {
            got = "throws " + e.getClass().getSimpleName();
        }
        Check.same(text, got, told);
    }

    private static List<String> examples(String readme) throws IOException {
        Matcher matcher = EXAMPLE.matcher(Files.readString(Path.of(readme), StandardCharsets.UTF_8));
        List<String> examples = new ArrayList<>();
        while (matcher.find()) {
            examples.add(matcher.group(1));
        }
        return examples;
    }

    private static void example(int number, String code) throws Exception {
        String name = "ReadmeExample" + number;
        Path classes = classes();
        Path source = classes.resolve(name + ".java");
        Files.writeString(source, "final class " + name + " implements Runnable {\npublic void run() {\n"
                + withChecks(code) + "}\n}\n");
        JavaCompiler compiler = ToolProvider.getSystemJavaCompiler();
        int exit = compiler.run(null, null, null, "-cp", classes.toString(), "-d", classes.toString(),
                source.toString());
        Check.same("exit code of the compiler", exit, 0);
        ((Runnable) Class.forName(name).getDeclaredConstructor().newInstance()).run();
    }

    // The examples lie beside the tests, where the class loader of the tests finds them.
    private static Path classes() throws URISyntaxException {
        return Path.of(ReadmeTests.class.getProtectionDomain().getCodeSource().getLocation().toURI());
    }

    /** The example with a check in place of each call; a call without an answer is a fault of the README. */
    private static String withChecks(String code) {
        StringBuilder checked = new StringBuilder();
        for (String line : code.split("\n")) {
            String told = line.trim();
            Matcher call = TOLD_CALL.matcher(told);
            if (call.matches()) {
                checked.append("ReadmeTests.due(").append(quoted(call.group(1))).append(", ")
                        .append(quoted(call.group(2))).append(", () -> ").append(call.group(1)).append(");\n");
            } else {
                Check.same("a call without an answer: " + told,
                        told.startsWith("drum.") && !told.equals(CALL_IN_LOOP), false);
                checked.append(line).append("\n");
            }
        }
        return checked.toString();
    }

    private static String quoted(String text) {
        return "\"" + text + "\"";
    }
}
