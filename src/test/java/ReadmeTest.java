import java.io.File;
import java.io.IOException;
import java.lang.reflect.Method;
import java.lang.reflect.Modifier;
import java.nio.file.Files;
import java.nio.file.Path;
import java.util.ArrayList;
import java.util.List;
import java.util.regex.Matcher;
import java.util.regex.Pattern;

/**
 * Looks that README.md is right: its example is compiled and run, and each call there must answer
 * what stands behind it; each call of the face and each test must be named.
 */
public final class ReadmeTest {
    private static final Path README = Path.of("README.md");
    private static final Path TESTS = Path.of("src/test/java");
    private static final Pattern EXAMPLE = Pattern.compile("```java\n(.*?)```", Pattern.DOTALL);
    private static final Pattern ANSWERED = Pattern.compile("(int (\\w+) = )?(.*); *// (.*)");

    public static void main(String[] args) throws IOException, InterruptedException {
        String text = Files.readString(README);
        Matcher example = EXAMPLE.matcher(text);
        Check.holds("README.md has no example", example.find());
        run(program(example.group(1)));
        for (Method method : GlassRaster.class.getDeclaredMethods()) {
            if (Modifier.isPublic(method.getModifiers())) {
                named(text, method.getName());
            }
        }
        for (File file : TESTS.toFile().listFiles()) {
            if (file.getName().endsWith("Test.java")) {
                named(text, file.getName().replace(".java", ""));
            }
        }
        Check.finish();
    }

    private static void named(String text, String name) {
        Check.holds("README.md does not name " + name, text.contains("`" + name + "`"));
    }

    /** The example as a program that prints what differs from what stands behind the calls. */
    private static String program(String example) {
        StringBuilder body = new StringBuilder();
        int answered = 0;
        for (String line : example.split("\n")) {
            Matcher matcher = ANSWERED.matcher(line);
            if (matcher.matches()) {
                answered++;
                body.append(looked(matcher));
            } else {
                body.append(line).append('\n');
            }
        }
        Check.holds("the example tells no answers", answered > 0);
        return "class Example {\n"
                + "static void due(String call, Object got, Object due) {\n"
                + "if (!got.equals(due)) {\n"
                + "System.out.println(call + \" answered \" + got + \", due is \" + due); } }\n"
                + "public static void main(String[] args) {\n" + body + "} }\n";
    }

    private static String looked(Matcher line) {
        String name = line.group(2) == null ? "" : line.group(2);
        String kept = name.isEmpty() ? "" : line.group(1) + line.group(3) + ";\n";
        String got = name.isEmpty() ? line.group(3) : name;
        return kept + "due(\"" + line.group(3) + "\", " + got + ", " + line.group(4) + ");\n";
    }

    /** By the java of this test, which compiles a single file by itself. */
    private static void run(String program) throws IOException, InterruptedException {
        Path file = Files.createTempFile("Example", ".java");
        try {
            Files.writeString(file, program);
            List<String> command = new ArrayList<>(List.of(
                    Path.of(System.getProperty("java.home"), "bin", "java").toString(),
                    "-cp", System.getProperty("java.class.path"), file.toString()));
            Process process = new ProcessBuilder(command).redirectErrorStream(true).start();
            String printed = new String(process.getInputStream().readAllBytes());
            Check.is("the example's exit code", process.waitFor(), 0);
            Check.holds("the example of README.md: " + printed, printed.isBlank());
        } finally {
            Files.delete(file);
        }
    }
}
