import java.lang.reflect.Method;
import java.lang.reflect.Modifier;
import java.nio.charset.StandardCharsets;
import java.nio.file.Files;
import java.nio.file.Path;
import java.util.regex.Matcher;
import java.util.regex.Pattern;

/** README.md's examples answer what it says, and it names every call; it is run from the project's folder. */
public final class ReadmeTest {
    private static final Bench BENCH = new Bench("ReadmeTest");
    private static final Pattern BLOCK = Pattern.compile("(?s)```java\n(.*?)```");
    private static final Pattern ROW = Pattern.compile("x\\.(\\w+)\\((.*?)\\); *// .*answers (true|false|-?\\d+)");

    public static void main(String[] args) throws Exception {
        String readme = Files.readString(Path.of("README.md"), StandardCharsets.UTF_8);
        Matcher blocks = BLOCK.matcher(readme);
        DrownedNames x = new DrownedNames();
        int rows = 0;
        while (blocks.find()) {
            for (String line : blocks.group(1).split("\n")) {
                rows += runRow(x, line.trim());
            }
        }
        BENCH.due("rows with an answer, a dozen at least", rows >= 12, true);
        for (Method method : DrownedNames.class.getDeclaredMethods()) {
            if (Modifier.isPublic(method.getModifiers())) {
                BENCH.due("README names " + method.getName(), readme.contains("`" + method.getName() + "("), true);
            }
        }
        BENCH.finish();
    }

    /** One, if it is a row with an answer. */
    private static int runRow(DrownedNames x, String line) throws Exception {
        if (!line.startsWith("x.")) {
            return 0;
        }
        Matcher row = ROW.matcher(line);
        BENCH.due("a row that tells its answer: " + line, row.matches(), true);
        Object answer = row.matches() ? call(x, row.group(1), row.group(2)) : "";
        BENCH.due(line + " answered " + answer, row.matches() && answer.toString().equals(row.group(3)), true);
        return 1;
    }

    private static Object call(DrownedNames x, String name, String arguments) throws Exception {
        for (Method method : DrownedNames.class.getDeclaredMethods()) {
            if (method.getName().equals(name) && Modifier.isPublic(method.getModifiers())) {
                String[] texts = arguments.isEmpty() ? new String[0] : arguments.split(", *");
                Object[] values = new Object[texts.length];
                for (int i = 0; i < texts.length; i++) {
                    long value = Long.decode(texts[i]);
                    if (method.getParameterTypes()[i] == long.class) {
                        values[i] = value;
                    } else {
                        values[i] = (int) value;
                    }
                }
                return method.invoke(x, values);
            }
        }
        return "no such call";
    }
}
