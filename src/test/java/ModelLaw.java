import java.util.ArrayDeque;
import java.util.Deque;

/** The law's text as the tests see it: a scanner finds the fault, and splitting finds the answer. */
final class ModelLaw {
    private ModelLaw() { }

    /** An open parenthesis, or the line itself. */
    private static final class Open {
        boolean compared;
        int ahead;
    }

    static int fault(String text) {
        Deque<Open> levels = new ArrayDeque<>();
        levels.push(new Open());
        boolean wanted = true;
        boolean asked = false;
        int digits = 0;
        int open = 0;
        for (int i = 0; i < text.length(); i++) {
            char c = text.charAt(i);
            Open level = levels.peek();
            boolean digit = c >= '0' && c <= '9';
            if (wanted) {
                if (c == '(' || c == '!' || c == '-') {
                    if (open == 6) {
                        return i;
                    }
                    open++;
                    if (c == '(') {
                        levels.push(new Open());
                    } else {
                        level.ahead++;
                    }
                    continue;
                }
                if (!digit && "sgkpwl".indexOf(c) < 0) {
                    return i;
                }
                digits = digit ? 1 : 4;
                wanted = false;
                open -= level.ahead;
                level.ahead = 0;
                continue;
            }
            if (digit) {
                if (digits == 4) {
                    return i;
                }
                digits++;
                continue;
            }
            digits = 4;
            if (c == ')') {
                if (levels.size() == 1) {
                    return i;
                }
                levels.pop();
                open -= 1 + levels.peek().ahead;
                levels.peek().ahead = 0;
                continue;
            }
            wanted = true;
            if (c == '<' || c == '=' || c == '>') {
                if (level.compared) {
                    return i;
                }
                level.compared = true;
            } else if (c == '|' || c == '&') {
                level.compared = false;
            } else if (c == '?' || c == ';') {
                if (levels.size() > 1 || c == '?' && asked) {
                    return i;
                }
                asked = c == '?';
                level.compared = false;
            } else if ("+-*/%".indexOf(c) < 0) {
                return i;
            }
        }
        return wanted || levels.size() > 1 ? text.length() : -1;
    }

    static int answer(String text, int[] sgkpwl) {
        for (String line : text.split(";")) {
            int ask = line.indexOf('?');
            if (ask < 0) {
                return value(line, sgkpwl);
            }
            if (value(line.substring(0, ask), sgkpwl) != 0) {
                return value(line.substring(ask + 1), sgkpwl);
            }
        }
        return 0;
    }

    private static int value(String e, int[] names) {
        for (String signs : new String[] {"|", "&", "<=>", "+-", "*/%"}) {
            int at = last(e, signs);
            if (at >= 0) {
                return both(value(e.substring(0, at), names), e.charAt(at), value(e.substring(at + 1), names));
            }
        }
        char first = e.charAt(0);
        if (first == '!') {
            return value(e.substring(1), names) == 0 ? 1 : 0;
        }
        if (first == '-') {
            return -value(e.substring(1), names);
        }
        if (first == '(') {
            return value(e.substring(1, e.length() - 1), names);
        }
        int name = "sgkpwl".indexOf(first);
        return name >= 0 ? names[name] : Integer.parseInt(e);
    }

    /** The last of these signs that stands in no parenthesis and behind something. */
    private static int last(String e, String signs) {
        int deep = 0;
        for (int i = e.length() - 1; i > 0; i--) {
            char c = e.charAt(i);
            deep += c == ')' ? 1 : c == '(' ? -1 : 0;
            if (deep == 0 && signs.indexOf(c) >= 0 && "!-(+*/%<=>&|".indexOf(e.charAt(i - 1)) < 0) {
                return i;
            }
        }
        return -1;
    }

    private static int both(int a, char sign, int b) {
        switch (sign) {
            case '|': return a != 0 || b != 0 ? 1 : 0;
            case '&': return a != 0 && b != 0 ? 1 : 0;
            case '<': return a < b ? 1 : 0;
            case '=': return a == b ? 1 : 0;
            case '>': return a > b ? 1 : 0;
            case '+': return a + b;
            case '-': return a - b;
            case '*': return a * b;
            case '/': return b == 0 ? 0 : (int) ((long) a / b);
            default: return b == 0 ? 0 : (int) ((long) a % b);
        }
    }
}
