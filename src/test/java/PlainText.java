import java.util.ArrayDeque;
import java.util.ArrayList;
import java.util.Deque;
import java.util.List;
import java.util.Map;
import java.util.Set;

/** A second reading of THE TAPE's grammar, by other means than the program's: states and frames, and two stacks. */
final class PlainText {
    static final Set<String> FACTS = Set.of("days", "fault", "worn", "opened", "proof", "gift", "kind", "price",
        "size", "month", "threes", "times");
    static final Set<String> HABITS = Set.of("bought", "back", "share", "spent", "lately");
    private static final List<String> OUTS = List.of("no", "mend", "swap", "note", "refund");

    private PlainText() {
    }

    /** Each token with its place in front, as "12 word". */
    private static List<String> tokens(String text) {
        List<String> found = new ArrayList<>();
        int at = 0;
        while (at < text.length()) {
            int to = at + 1;
            String kind = kindOf(text.charAt(at));
            while (!kind.equals("sign") && to < text.length() && kindOf(text.charAt(to)).equals(kind)) {
                to++;
            }
            if (!kind.equals("blank")) {
                found.add(at + " " + text.substring(at, to));
            }
            at = to;
        }
        return found;
    }

    private static String kindOf(char c) {
        if (c == ' ') {
            return "blank";
        }
        return c >= 'a' && c <= 'z' ? "word" : c >= '0' && c <= '9' ? "number" : "sign";
    }

    private static final class Frame {
        final char kind;
        int nots;
        boolean related;

        Frame(char kind) {
            this.kind = kind;
        }
    }

    private enum State { RULE, OUT, END_OF_RULE, WANT_TEST, WANT_OPERAND, HAVE }

    private static final class Walk {
        final boolean isLimit;
        final Set<String> names;
        final Deque<Frame> frames = new ArrayDeque<>();
        State state;
        int open;

        Walk(boolean isLimit) {
            this.isLimit = isLimit;
            this.names = isLimit ? HABITS : FACTS;
            this.state = isLimit ? State.WANT_TEST : State.RULE;
            if (isLimit) {
                frames.push(new Frame('Q'));
            }
        }

        boolean mayEnd() {
            if (isLimit) {
                return state == State.HAVE && frames.size() == 1;
            }
            return state == State.END_OF_RULE
                || state == State.HAVE && frames.size() == 1 && frames.peek().kind == 'E';
        }

        boolean goesOn(String token) {
            switch (state) {
                case RULE:
                    if (OUTS.contains(token)) {
                        return out(token);
                    }
                    frames.push(new Frame('Q'));
                    state = State.WANT_TEST;
                    return want(token);
                case OUT:
                    return OUTS.contains(token) && out(token);
                case END_OF_RULE:
                    state = State.RULE;
                    return token.equals(";");
                case HAVE:
                    return have(token);
                default:
                    return want(token);
            }
        }

        private boolean out(String token) {
            frames.clear();
            if (token.equals("note") || token.equals("refund")) {
                frames.push(new Frame('E'));
                state = State.WANT_OPERAND;
            } else {
                state = State.END_OF_RULE;
            }
            return true;
        }

        private boolean want(String token) {
            if (token.matches("[0-9]{1,5}") || names.contains(token)) {
                state = State.HAVE;
                return true;
            }
            if (token.equals("(") && open < 10) {
                open++;
                frames.push(new Frame('('));
                state = State.WANT_TEST;
                return true;
            }
            if (token.equals("not") && state == State.WANT_TEST && open < 10) {
                open++;
                frames.peek().nots++;
                return true;
            }
            return false;
        }

        private boolean have(String token) {
            Frame frame = frames.peek();
            if (token.matches("[-+*/]")) {
                state = State.WANT_OPERAND;
                return true;
            }
            if (token.matches("[<=>]")) {
                boolean may = frame.kind != 'E' && !frame.related;
                frame.related = true;
                state = State.WANT_OPERAND;
                return may;
            }
            if (token.equals("and") || token.equals("or")) {
                open -= frame.nots;
                frame.nots = 0;
                frame.related = false;
                state = State.WANT_TEST;
                return frame.kind != 'E';
            }
            if (token.equals(")")) {
                open -= frame.nots + 1;
                frames.pop();
                return frame.kind == '(';
            }
            if (token.equals(":")) {
                open -= frame.nots;
                state = State.OUT;
                return frame.kind == 'Q' && !isLimit;
            }
            if (token.equals(";")) {
                frames.clear();
                state = State.RULE;
                return frame.kind == 'E';
            }
            return false;
        }
    }

    /** The FAULT's place, -1 if there is none. */
    static int fault(String text, boolean isLimit) {
        Walk walk = new Walk(isLimit);
        for (String placed : tokens(text)) {
            int blank = placed.indexOf(' ');
            if (!walk.goesOn(placed.substring(blank + 1))) {
                return Integer.parseInt(placed.substring(0, blank));
            }
        }
        return walk.mayEnd() ? -1 : text.length();
    }

    /** 1000 times OUT, and E, of a TEXT without FAULT. */
    static int outOf(String text, Map<String, Integer> names) {
        for (String rule : text.split(";")) {
            int colon = rule.indexOf(':');
            if (colon >= 0 && value(rule.substring(0, colon), names) == 0) {
                continue;
            }
            String out = rule.substring(colon + 1).trim();
            for (int i = 4; i >= 0; i--) {
                if (out.startsWith(OUTS.get(i))) {
                    int share = i == 0 ? 0 : i < 3 ? 100 : value(out.substring(OUTS.get(i).length()), names);
                    return 1000 * i + Math.min(100, Math.max(0, share));
                }
            }
        }
        return 0;
    }

    private static int rank(String sign) {
        switch (sign) {
            case "or": return 1;
            case "and": return 2;
            case "not": return 3;
            case "<": case "=": case ">": return 4;
            case "+": case "-": return 5;
            case "*": case "/": return 6;
            default: return 0;
        }
    }

    static int value(String expression, Map<String, Integer> names) {
        Deque<Integer> values = new ArrayDeque<>();
        Deque<String> signs = new ArrayDeque<>();
        for (String placed : tokens(expression)) {
            String token = placed.substring(placed.indexOf(' ') + 1);
            if (names.containsKey(token)) {
                values.push(names.get(token));
            } else if (Character.isDigit(token.charAt(0))) {
                values.push(Integer.parseInt(token));
            } else if (token.equals("(") || token.equals("not")) {
                signs.push(token);
            } else {
                while (!signs.isEmpty() && rank(signs.peek()) >= Math.max(1, rank(token))) {
                    apply(signs.pop(), values);
                }
                if (token.equals(")")) {
                    signs.pop();
                } else {
                    signs.push(token);
                }
            }
        }
        while (!signs.isEmpty()) {
            apply(signs.pop(), values);
        }
        return values.pop();
    }

    private static void apply(String sign, Deque<Integer> values) {
        long right = values.pop();
        if (sign.equals("not")) {
            values.push(right == 0 ? 1 : 0);
            return;
        }
        long left = values.pop();
        long result;
        switch (sign) {
            case "or": result = left != 0 || right != 0 ? 1 : 0; break;
            case "and": result = left != 0 && right != 0 ? 1 : 0; break;
            case "<": result = left < right ? 1 : 0; break;
            case "=": result = left == right ? 1 : 0; break;
            case ">": result = left > right ? 1 : 0; break;
            case "+": result = left + right; break;
            case "-": result = left - right; break;
            case "*": result = left * right; break;
            default: result = right == 0 ? 0 : left / right; break;
        }
        values.push((int) result);
    }
}
