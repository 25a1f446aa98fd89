import java.nio.charset.StandardCharsets;
import java.nio.file.Files;
import java.nio.file.Path;
import java.util.Arrays;
import java.util.regex.Matcher;
import java.util.regex.Pattern;

/** What of LANGUAGE.md can be seen in the source at a glance; it is run from the project's folder. */
public final class LanguageTest {
    private static final Bench BENCH = new Bench("LanguageTest");
    private static final Path SOURCE = Path.of("src/main/java/DrownedNames.java");
    private static final String[] BARRED = {
        "^package ", "->", "::", "\\bsynchronized\\b", "\\bassert\\b", "\\btry\\b", "\\bcatch\\b", "\\bfinally\\b",
        "\\bObject\\b", "\\bRandom\\b", "\\bThread\\b", "nanoTime", "currentTimeMillis", "Exact\\(", "\\bnull\\b",
        "\\bvar\\b", "\\bprotected\\b", "\\bstream\\b", "System\\.(?!arraycopy)", "\\bdouble\\b", "\\bfloat\\b"};

    public static void main(String[] args) throws Exception {
        String source = Files.readString(SOURCE, StandardCharsets.ISO_8859_1);
        String code = source.replaceAll("(?s)/\\*.*?\\*/", "").replaceAll("//[^\n]*", "");
        for (String barred : BARRED) {
            BENCH.due("places with " + barred, places(code, barred), 0);
        }
        BENCH.due("imports", places(code, "^import "), 1);
        BENCH.due("the import", places(code, "^import java\\.util\\.NoSuchElementException;"), 1);
        BENCH.due("classes, at most some twelve", places(code, "\\b(class|interface|enum|record) [A-Z]") <= 12, true);
        BENCH.due("signs beyond 127", places(source, "[^\\x00-\\x7F]"), 0);
        BENCH.due("throws of the one kind", places(code, "throw new "), places(code, "throw new NoSuchElementException\\(\""));
        shortMethods(source);
        BENCH.finish();
    }

    private static int places(String text, String pattern) {
        Matcher matcher = Pattern.compile(pattern, Pattern.MULTILINE).matcher(text);
        int many = 0;
        while (matcher.find()) {
            many++;
        }
        return many;
    }

    /** All rows are made in constructors and used again, so that a run's calls fit in their room (rule 12). */
    private static boolean isConstructor(String head) {
        return head.trim().matches("(public |private )?[A-Z]\\w*\\(.*");
    }

    /** A method begins with its head and ends with a lone brace as far in. */
    private static void shortMethods(String source) {
        String[] lines = source.split("\n");
        Pattern head = Pattern.compile("^( {4}| {8})(?! |if |for |while |switch )[\\w\\[\\] ]+\\((.*)\\).* \\{$");
        for (int i = 0; i < lines.length; i++) {
            Matcher matcher = head.matcher(lines[i]);
            if (matcher.find()) {
                int end = i;
                while (!lines[end].equals(matcher.group(1) + "}")) {
                    end++;
                }
                BENCH.due("at most sixty lines: " + lines[i].trim(), end - i <= 60, true);
                BENCH.due("at most seven parameters: " + lines[i].trim(), matcher.group(2).split(",").length <= 7, true);
                if (!isConstructor(lines[i])) {
                    String body = String.join("\n", Arrays.copyOfRange(lines, i, end));
                    BENCH.due("makes nothing: " + lines[i].trim(), places(body, "(?<!throw )\\bnew\\b"), 0);
                }
            }
        }
    }
}
