import java.io.IOException;
import java.nio.charset.StandardCharsets;
import java.nio.file.Files;
import java.nio.file.Path;
import java.util.NoSuchElementException;
import java.util.regex.Matcher;
import java.util.regex.Pattern;

/**
 * The document's sentences. A test says which one it looks at, in the document's own words; words that the document
 * does not have, a sentence without an answer looked at, and words that no test says are told as wrong.
 */
final class Sentences {
    /** The part of the document ahead of the promises; the other parts go by the promise's number. */
    static final int TERMS = 0;
    private static final int PROMISES = 40;
    private static final Path DOCUMENT = Path.of("../shared/DOC.md");

    private final Bench bench;
    private final String[] parts = new String[PROMISES + 1];
    private final boolean[][] said = new boolean[PROMISES + 1][];
    private final boolean hasDocument;
    private String sentence = "";
    private int answers = 1;

    Sentences(Bench bench) throws IOException {
        this.bench = bench;
        hasDocument = Files.exists(DOCUMENT);
        if (hasDocument) {
            split(Files.readString(DOCUMENT, StandardCharsets.ISO_8859_1));
        } else {
            System.out.println("no " + DOCUMENT + " here: the sentences' words are not compared with it");
        }
    }

    private void split(String document) {
        int from = document.indexOf("## Terms");
        int to = document.indexOf("## Not promised");
        String[] texts = document.substring(from, to).split("\n## Promise \\d+:[^\n]*\n");
        bench.due("parts of the document", texts.length, parts.length);
        for (int part = 0; part < parts.length && part < texts.length; part++) {
            parts[part] = texts[part].replace("## Terms", "").replace("```text", "").replace("```", "")
                    .replaceAll("==== \\d\\.", "").replaceAll("^\\s*`[^`]*`:", "").replaceAll("\\s+", " ");
            said[part] = new boolean[parts[part].length()];
        }
    }

    /** The answers from here on are those that this sentence wants. */
    void says(int part, String words) {
        endSentence();
        sentence = (part == TERMS ? "Terms: " : "Promise " + part + ": ") + words;
        answers = 0;
        if (!hasDocument) {
            return;
        }
        int at = parts[part].indexOf(words);
        bench.due("'" + sentence + "' stands in the document", at >= 0, true);
        while (at >= 0) {
            for (int i = at; i < at + words.length(); i++) {
                said[part][i] = true;
            }
            at = parts[part].indexOf(words, at + 1);
        }
    }

    private void endSentence() {
        bench.due("'" + sentence + "' has a test", answers > 0, true);
    }

    void due(String call, long got, long want) {
        answers++;
        bench.due("'" + sentence + "': " + call, got, want);
    }

    void due(String call, boolean got, boolean want) {
        due(call, got ? 1 : 0, want ? 1 : 0);
    }

    void due(String call, String got, String want) {
        answers++;
        bench.due("'" + sentence + "': " + call + "\n  " + got + "\n  " + want + "\n alike", got.equals(want), true);
    }

    void dueNoSuchName(DrownedNames x, int name, int what) {
        boolean thrown = false;
        try {
            x.name(name, what);
        } catch (NoSuchElementException e) {
            thrown = true;
        }
        due("name(" + name + ", " + what + ") throws", thrown, true);
    }

    /** STATUS 0 to 4, in one look. */
    void dueStatus(DrownedNames x, int s0, int s1, int s2, int s3, int s4) {
        int[] want = {s0, s1, s2, s3, s4};
        for (int what = 0; what < want.length; what++) {
            due("status(" + what + ")", x.status(what), want[what]);
        }
    }

    /** Every word of the document must have been said. */
    void finish() {
        endSentence();
        for (int part = 0; hasDocument && part < parts.length; part++) {
            StringBuilder left = new StringBuilder();
            for (int i = 0; i < said[part].length; i++) {
                left.append(said[part][i] ? '\n' : parts[part].charAt(i));
            }
            Matcher words = Pattern.compile("[^\n]*[A-Za-z0-9][^\n]*").matcher(left);
            while (words.find()) {
                bench.due("tests of part " + part + " that say '" + words.group() + "'", 0, 1);
            }
        }
        bench.finish();
    }
}
