import java.io.IOException;
import java.nio.file.Files;
import java.nio.file.Path;
import java.util.List;
import java.util.Set;
import java.util.regex.Matcher;
import java.util.regex.Pattern;

/** The rules of LANGUAGE.md that the text of the class shows. */
public final class LanguageTest {
    private static final Path SOURCE = Path.of("src/main/java/GlassRaster.java");
    private static final int LONGEST = 60;

    /** What of the library the class uses; more stands in rule 4, and may be added here. */
    private static final Set<String> LIBRARY = Set.of("Arrays.fill", "Math.abs", "Math.floorDiv",
            "Math.max", "Math.min", "System.arraycopy");
    private static final Set<String> EXCEPTIONS = Set.of("IllegalStateException",
            "IllegalArgumentException", "IndexOutOfBoundsException");
    private static final List<String> NEVER = List.of("\\b(try|catch|finally|synchronized|assert"
            + "|var|native|volatile|transient|goto|yield|strictfp)\\b", "->", "::",
            "\\b(NaN|StrictMath|Object|Random|Thread|Runtime)\\b", "\\b\\w+Exact\\b",
            "@\\w+");

    public static void main(String[] args) throws IOException {
        String bare = bare(Files.readString(SOURCE));
        Check.holds("no package line", !bare.matches("(?s)\\s*package\\b.*"));
        for (String pattern : NEVER) {
            Matcher matcher = Pattern.compile(pattern).matcher(bare);
            Check.holds("the class holds what fits " + pattern, !matcher.find());
        }
        every(bare, "import ([\\w.*]+);", Set.of("java.util.Arrays"));
        every(bare, "\\b((?:Arrays|Math|System|Integer|Long|List)\\.\\w+)(?=\\()", LIBRARY);
        every(bare, "\\bthrow (?!new )(\\w+)", Set.of());
        every(bare, "\\bthrow new (\\w+)", EXCEPTIONS);
        Matcher statics = Pattern.compile("\\bstatic (?!final|\\w+ \\w+\\()[^;{(]*[;=]")
                .matcher(bare);
        Check.holds("a static field is not final", !statics.find());
        shortMethods(bare);
        Check.finish();
    }

    /** The text without what stands in comments and in texts, with its lines. */
    private static String bare(String source) {
        String noTexts = source.replaceAll("\"[^\"\\n]*\"", "\"\"");
        Matcher comment = Pattern.compile("(?s)/\\*.*?\\*/").matcher(noTexts);
        return comment.replaceAll(found -> found.group().replaceAll("[^\\n]", ""))
                .replaceAll("//[^\\n]*", "");
    }

    private static void every(String text, String pattern, Set<String> fine) {
        Matcher matcher = Pattern.compile(pattern).matcher(text);
        while (matcher.find()) {
            Check.holds("the class holds " + matcher.group(), fine.contains(matcher.group(1)));
        }
    }

    /** A method begins where a brace opens behind ')' or a list of exceptions. */
    private static void shortMethods(String bare) {
        String[] lines = bare.split("\n");
        int methods = 0;
        for (int i = 0; i < lines.length; i++) {
            Matcher head = Pattern.compile("( {4}| {8})[\\w<>\\[\\]]+ .*\\(.*").matcher(lines[i]);
            if (head.matches() && !lines[i].endsWith(";")
                    && !lines[i].matches(" *(if|for|while|else|switch|return|throw)\\b.*")) {
                methods++;
                int length = 1;
                while (i + length < lines.length
                        && !lines[i + length].equals(head.group(1) + "}")) {
                    length++;
                }
                Check.holds(lines[i].strip() + " has " + length + " lines", length < LONGEST);
            }
        }
        Check.holds("methods were found: " + methods, methods > 36);
    }
}
