import java.nio.charset.StandardCharsets;
import java.util.NoSuchElementException;

/** What the tests share: telling texts to an object, and counting answers that are not due. */
final class Bench {
    static final int NONE = DrownedNames.NONE;
    static final int HIDDEN = DrownedNames.HIDDEN;
    static final int MINISTRY = 0;
    static final int LAW = 1;

    private final String title;
    private int checks;
    private int wrong;

    Bench(String title) {
        this.title = title;
    }

    void due(String call, long got, long want) {
        checks++;
        if (got != want) {
            wrong++;
            System.out.println(title + ": " + call + " answered " + got + ", due is " + want);
        }
    }

    void due(String call, boolean got, boolean want) {
        due(call, got ? 1 : 0, want ? 1 : 0);
    }

    void dueNoSuchName(DrownedNames x, int name, int what) {
        boolean thrown = false;
        try {
            x.name(name, what);
        } catch (NoSuchElementException e) {
            thrown = true;
        }
        due("name(" + name + ", " + what + ") throws", thrown, true);
    }

    /** The exit code says whether all answers were due. */
    void finish() {
        System.out.println(title + ": " + checks + " answers, " + wrong + " not as due");
        if (wrong != 0 || checks == 0) {
            System.exit(1);
        }
    }

    /** Feeds a text, twenty bytes a call; the last answer. */
    static int tell(DrownedNames x, String text) {
        byte[] bytes = text.getBytes(StandardCharsets.ISO_8859_1);
        int answer = x.count(4);
        for (int from = 0; from < bytes.length; from += 20) {
            answer = x.feed(word(bytes, from), word(bytes, from + 4), word(bytes, from + 8),
                    word(bytes, from + 12), word(bytes, from + 16));
        }
        return answer;
    }

    static int word(byte[] bytes, int from) {
        int word = 0;
        for (int i = from; i < from + 4; i++) {
            word = word << 8 | (i < bytes.length ? bytes[i] & 255 : 0);
        }
        return word;
    }

    static DrownedNames ministry(String text) {
        DrownedNames x = new DrownedNames();
        found(x, text);
        return x;
    }

    static int found(DrownedNames x, String text) {
        x.end(0);
        tell(x, text);
        return x.text(MINISTRY);
    }

    /** Passes a LAW and lets it hold. */
    static void hold(DrownedNames x, String text) {
        x.end(0);
        tell(x, text);
        x.law(x.text(LAW));
    }

    static int faultOf(String text, int sort) {
        DrownedNames x = new DrownedNames();
        tell(x, text);
        return x.fault(sort);
    }

    static int missed(DrownedNames x, int name) {
        return x.name(name, 5);
    }
}
