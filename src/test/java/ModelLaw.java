import java.util.ArrayDeque;
import java.util.Deque;
import java.util.Map;

/** THE LAW, read by a machine of states and worked out by splitting the text, as Model asks it. */
final class ModelLaw {
    private ModelLaw() {
    }

    /** The FAULT, or -1: none. */
    static int fault(String text) {
        Deque<int[]> brackets = new ArrayDeque<>(); // signs ahead of it, whether the chain around it has compared
        boolean wanted = true;
        int digits = 0;
        int ahead = 0;
        int open = 0;
        boolean compared = false;
        boolean asked = false;
        for (int i = 0; i < text.length(); i++) {
            char c = text.charAt(i);
            if (wanted) {
                if (c == '(' || c == '!' || c == '-') {
                    if (open == 6) {
                        return i;
                    }
                    open++;
                    if (c == '(') {
                        brackets.push(new int[] {ahead, compared ? 1 : 0});
                        ahead = 0;
                        compared = false;
                    } else {
                        ahead++;
                    }
                    continue;
                }
                if (c >= '0' && c <= '9') {
                    digits = 1;
                } else if ("nsklwm".indexOf(c) >= 0) {
                    digits = 0;
                } else {
                    return i;
                }
                open -= ahead;
                ahead = 0;
                wanted = false;
                continue;
            }
            if (c >= '0' && c <= '9' && digits > 0 && digits < 4) {
                digits++;
                continue;
            }
            digits = 0;
            if (c == ')') {
                if (brackets.isEmpty()) {
                    return i;
                }
                int[] closed = brackets.pop();
                open -= 1 + closed[0];
                compared = closed[1] == 1;
                continue;
            }
            wanted = true;
            if (c == '|' || c == '&') {
                compared = false;
            } else if (c == '<' || c == '=' || c == '>') {
                if (compared) {
                    return i;
                }
                compared = true;
            } else if (c == '?' || c == ';') {
                if (!brackets.isEmpty() || (c == '?' && asked)) {
                    return i;
                }
                asked = c == '?';
                compared = false;
            } else if ("+-*/%".indexOf(c) < 0) {
                return i;
            }
        }
        return wanted || !brackets.isEmpty() ? text.length() : -1;
    }

    /** What a text without a FAULT gives. */
    static int given(String text, Map<Character, Integer> names) {
        for (String line : text.split(";")) {
            int mark = line.indexOf('?');
            if (mark < 0) {
                return value(line, names);
            }
            if (value(line.substring(0, mark), names) != 0) {
                return value(line.substring(mark + 1), names);
            }
        }
        return 0;
    }

    private static final String[] RANKS = {"|", "&", "<=>", "+-", "*/%"};

    private static int value(String e, Map<Character, Integer> names) {
        for (String rank : RANKS) {
            int at = lastBetween(e, rank);
            if (at >= 0) {
                int a = value(e.substring(0, at), names);
                int b = value(e.substring(at + 1), names);
                return join(e.charAt(at), a, b);
            }
        }
        char first = e.charAt(0);
        if (first == '!') {
            return value(e.substring(1), names) == 0 ? 1 : 0;
        }
        if (first == '-') {
            return -value(e.substring(1), names);
        }
        if (first == '(') {
            return value(e.substring(1, e.length() - 1), names);
        }
        return names.containsKey(first) ? names.get(first) : Integer.parseInt(e);
    }

    /** The last of these signs that stands between two, outside brackets. */
    private static int lastBetween(String e, String signs) {
        int depth = 0;
        for (int i = e.length() - 1; i > 0; i--) {
            char c = e.charAt(i);
            depth += c == ')' ? 1 : c == '(' ? -1 : 0;
            char before = e.charAt(i - 1);
            boolean between = before == ')' || Character.isLetterOrDigit(before);
            if (depth == 0 && signs.indexOf(c) >= 0 && between) {
                return i;
            }
        }
        return -1;
    }

    private static int join(char sign, int a, int b) {
        switch (sign) {
            case '|':
                return a == 0 && b == 0 ? 0 : 1;
            case '&':
                return a == 0 || b == 0 ? 0 : 1;
            case '<':
                return a < b ? 1 : 0;
            case '=':
                return a == b ? 1 : 0;
            case '>':
                return a > b ? 1 : 0;
            case '+':
                return a + b;
            case '-':
                return a - b;
            case '*':
                return a * b;
            case '/':
                return b == 0 ? 0 : a / b;
            default:
                return b == 0 ? 0 : a % b;
        }
    }
}
