import java.util.Random;

/** Texts by chance: mostly right ones, some with a sign put in, left out or changed. */
final class TextMaker {
    private static final String SIGNS = "swnfdcrobaky0123456789;:?|&!()[]=<>+-*/ x\t";
    private final Random random;

    TextMaker(Random random) {
        this.random = random;
    }

    private int below(int n) {
        return random.nextInt(n);
    }

    private String oneOf(String... texts) {
        return texts[below(texts.length)];
    }

    String ministry() {
        int wells = 1 + below(4);
        int names = 2 + below(6);
        int files = below(7);
        StringBuilder text = new StringBuilder();
        boolean rulesFirst = below(2) == 0;
        String rules = below(4) == 0 ? "" : "s" + items("d" + (1 + below(3)), "c" + below(100));
        if (rulesFirst && !rules.isEmpty()) {
            text.append(rules).append(';');
        }
        for (int i = 0; i < wells; i++) {
            text.append('w').append(items("d" + (below(3) == 0 ? below(31) : 8 + below(20)), below(3) == 0 ? "r1" : "r0"));
            text.append(';');
        }
        for (int i = 0; i < names; i++) {
            int knows = (i + 1 + below(names - 1)) % names;
            String known = "f" + knows;
            String others = items("s" + (1 + below(5)), "o" + (below(4) == 0 ? 1 : 0));
            text.append('n').append(knows == 0 && below(2) == 0 ? others : below(2) == 0 ? known + others : others + known);
            text.append(';');
        }
        for (int i = 0; i < files; i++) {
            int a = below(names);
            int b = (a + 1 + below(names - 1)) % names;
            text.append('f').append(a == 0 && b == 1 && below(2) == 0 ? "" : "b" + b + "a" + a).append(';');
        }
        if (!rulesFirst && !rules.isEmpty()) {
            text.append(rules).append(';');
        }
        text.setLength(text.length() - 1);
        return text.toString();
    }

    private String items(String one, String other) {
        return oneOf("", one, other, one + other, other + one, one + other, other + one);
    }

    String law() {
        StringBuilder text = new StringBuilder();
        int clauses = 1 + below(3);
        for (int i = 0; i < clauses; i++) {
            text.append(i == 0 ? "" : ";").append("y:");
            if (below(3) > 0) {
                text.append(condition(6)).append('?');
            }
            text.append(sum(6));
        }
        return text.length() > 240 ? "y:s*2+k-a/[w+1]" : text.toString();
    }

    private String condition(int nested) {
        String text = unit(nested);
        for (int i = below(3); i > 0 && text.length() < 60; i--) {
            text = text + oneOf("&", "|") + unit(nested);
        }
        return text;
    }

    private String unit(int nested) {
        int sort = nested > 0 ? below(5) : 4;
        return sort == 0 ? "!" + unit(nested - 1) : sort == 1 ? "(" + condition(nested - 1) + ")"
                : sum(nested) + oneOf("=", "<", ">") + sum(nested);
    }

    private String sum(int nested) {
        String text = atom(nested);
        for (int i = below(3); i > 0 && text.length() < 40; i--) {
            text = text + oneOf("+", "-", "*", "/") + atom(nested);
        }
        return text;
    }

    private String atom(int nested) {
        int sort = below(nested > 0 ? 8 : 7);
        return sort == 7 ? "[" + sum(nested - 1) + "]" : sort == 6 ? "" + below(10000)
                : sort >= 4 ? "" + below(12) : oneOf("s", "k", "a", "o", "w", "y");
    }

    /** Blanks between signs, not within numbers. */
    String spaced(String text) {
        StringBuilder spaced = new StringBuilder();
        for (int i = 0; i < text.length(); i++) {
            boolean within = i > 0 && Character.isDigit(text.charAt(i)) && Character.isDigit(text.charAt(i - 1));
            spaced.append(!within && below(6) == 0 ? " " : "").append(text.charAt(i));
        }
        return spaced.length() > 239 ? text : spaced.append(oneOf("", " ")).toString();
    }

    String spoilt(String text) {
        StringBuilder spoilt = new StringBuilder(text);
        for (int i = 1 + below(3); i > 0; i--) {
            int at = below(spoilt.length() + 1);
            char sign = SIGNS.charAt(below(SIGNS.length()));
            int sort = below(4);
            if (sort == 0 && at < spoilt.length()) {
                spoilt.deleteCharAt(at);
            } else if (sort == 1 && at < spoilt.length()) {
                spoilt.setCharAt(at, sign);
            } else if (sort == 2 && spoilt.length() < 240) {
                spoilt.insert(at, sign);
            } else if (sort == 3 && at < spoilt.length() && at > 0 && spoilt.length() < 230) {
                spoilt.insert(at, spoilt.substring(Math.max(0, at - 1 - below(6)), at));
            }
        }
        return spoilt.length() > 240 ? text : spoilt.toString();
    }

    /** Nested deep, up to two too many, in any mixture of ! ( [. */
    String nestedLaw() {
        StringBuilder head = new StringBuilder("y:");
        StringBuilder closeSum = new StringBuilder();
        StringBuilder closeUnit = new StringBuilder();
        int units = below(9);
        int sums = Math.max(0, 4 + below(5) - units);
        for (int i = 0; i < units; i++) {
            boolean not = below(2) == 0;
            head.append(not ? '!' : '(');
            closeUnit.append(not ? "" : ")");
        }
        for (int i = 0; i < sums; i++) {
            head.append('[');
            closeSum.append(']');
        }
        return head + oneOf("s", "7", "s+1") + closeSum + "=" + oneOf("1", "[1]", "[[k]]") + closeUnit
                + oneOf("?1", "&s=[1]?1", "?[[1]]", "|!!s=1?2");
    }
}
