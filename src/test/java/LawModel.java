import java.util.ArrayDeque;
import java.util.Deque;

/** LAWS once more: faults by a walk with a stack instead of by descent, WORTH by splitting the text at its signs. */
final class LawModel {
    private final String law;
    private final long[] letters;

    LawModel(String lawWithoutBlanks, long s, long k, long a, long o, long w, long y) {
        law = lawWithoutBlanks;
        letters = new long[] {s, k, a, o, w, y};
    }

    // ---- faults

    static int fault(String text) {
        return new Walk().fault(text);
    }

    private static final class Walk {
        // y: a clause begins; o: an operand is due; s: a sum may end; u: a unit has ended with )
        private char due = 'y';
        // c: perhaps a condition; l, r: left and right of a comparison; e: behind ?
        private char side = 'c';
        private boolean unitBegins;
        private int digits;
        private final Deque<Character> open = new ArrayDeque<>();

        int fault(String text) {
            for (int i = 0; i < text.length(); i++) {
                char sign = text.charAt(i);
                if (sign >= '0' && sign <= '9' && digits > 0) {
                    if (++digits > 4) {
                        return i;
                    }
                    continue;
                }
                digits = 0;
                if (sign != ' ' && !takes(sign)) {
                    return i;
                }
            }
            return due == 's' && open.isEmpty() && (side == 'c' || side == 'e') ? -1 : text.length();
        }

        private boolean takes(char sign) {
            switch (due) {
                case 'y':
                    due = ':';
                    return sign == 'y';
                case ':':
                    due = 'o';
                    side = 'c';
                    unitBegins = true;
                    return sign == ':';
                case 'o':
                    return takesOperand(sign);
                default:
                    return takesAfter(sign);
            }
        }

        private boolean takesOperand(char sign) {
            boolean unit = unitBegins;
            unitBegins = false;
            if (sign == '[' || unit && (sign == '!' || sign == '(')) {
                open.push(sign);
                if (sign != '[') {
                    unitBegins = true;
                    side = 'l';
                }
                return open.size() <= 6;
            }
            due = 's';
            digits = sign >= '0' && sign <= '9' ? 1 : 0;
            return digits == 1 || "skaowy".indexOf(sign) >= 0;
        }

        private boolean takesAfter(char sign) {
            boolean sum = due == 's';
            due = 'o';
            if (sum && "+-*/".indexOf(sign) >= 0) {
                return true;
            }
            if (!open.isEmpty() && open.peek() == '[') {
                open.pop();
                due = 's';
                return sign == ']';
            }
            if (sum && (side == 'c' || side == 'l')) {
                if ("=<>".indexOf(sign) >= 0) {
                    side = 'r';
                    return true;
                }
                due = 'y';
                return side == 'c' && sign == ';';
            }
            if (side == 'e') {
                due = 'y';
                return sign == ';';
            }
            while (!open.isEmpty() && open.peek() == '!') {
                open.pop();
            }
            return endsUnit(sign);
        }

        private boolean endsUnit(char sign) {
            if (sign == '&' || sign == '|') {
                side = 'l';
                unitBegins = true;
                return true;
            }
            if (sign == ')' && !open.isEmpty()) {
                open.pop();
                side = 'r';
                due = 'u';
                return true;
            }
            side = 'e';
            return sign == '?' && open.isEmpty();
        }
    }

    // ---- worth

    long worth() {
        for (String clause : law.split(";")) {
            String rest = clause.substring(2);
            int mark = rest.indexOf('?');
            if (mark < 0 || holds(rest.substring(0, mark))) {
                return sum(rest.substring(mark + 1));
            }
        }
        return 0;
    }

    /** The last of these signs outside all brackets, or -1. */
    private static int lastOutside(String text, String signs) {
        int depth = 0;
        for (int i = text.length() - 1; i >= 0; i--) {
            char sign = text.charAt(i);
            depth += sign == ')' || sign == ']' ? 1 : sign == '(' || sign == '[' ? -1 : 0;
            if (depth == 0 && signs.indexOf(sign) >= 0) {
                return i;
            }
        }
        return -1;
    }

    private boolean holds(String text) {
        int at = lastOutside(text, "|");
        if (at >= 0) {
            return holds(text.substring(0, at)) || holds(text.substring(at + 1));
        }
        at = lastOutside(text, "&");
        if (at >= 0) {
            return holds(text.substring(0, at)) && holds(text.substring(at + 1));
        }
        if (text.charAt(0) == '!') {
            return !holds(text.substring(1));
        }
        if (text.charAt(0) == '(') {
            return holds(text.substring(1, text.length() - 1));
        }
        at = lastOutside(text, "=<>");
        long left = sum(text.substring(0, at));
        long right = sum(text.substring(at + 1));
        return text.charAt(at) == '=' ? left == right : text.charAt(at) == '<' ? left < right : left > right;
    }

    private long sum(String text) {
        int at = lastOutside(text, "+-");
        if (at < 0) {
            at = lastOutside(text, "*/");
        }
        if (at >= 0) {
            long left = sum(text.substring(0, at));
            long right = sum(text.substring(at + 1));
            char sign = text.charAt(at);
            long all = sign == '+' ? left + right : sign == '-' ? left - right : sign == '*' ? left * right
                    : right == 0 ? 0 : left / right;
            return Math.max(-1000000, Math.min(1000000, all));
        }
        if (text.charAt(0) == '[') {
            return sum(text.substring(1, text.length() - 1));
        }
        int letter = "skaowy".indexOf(text.charAt(0));
        return letter >= 0 ? letters[letter] : Long.parseLong(text);
    }
}
