import java.util.HashMap;
import java.util.Map;

/**
 * The LAW's text by its grammar alone, over spans of the text and without reading from left to right,
 * so that it shares no way of working with the program: slow, for tests only.
 */
final class TextModel {
    private final String text;
    private final Map<String, Boolean> known = new HashMap<>();

    TextModel(String text) {
        this.text = text;
    }

    /** The FAULT, or -1: the shortest beginning that no short ending makes a TEXT. */
    static int fault(String text) {
        for (int length = 1; length <= text.length(); length++) {
            if (!goesOn(text.substring(0, length))) {
                return length - 1;
            }
        }
        return new TextModel(text).isText() ? -1 : text.length();
    }

    private static boolean goesOn(String beginning) {
        StringBuilder closing = new StringBuilder();
        for (int i = 0; i <= 6; i++) {
            if (new TextModel(beginning + closing).isText() || new TextModel(beginning + "l" + closing).isText()) {
                return true;
            }
            closing.append(')');
        }
        return false;
    }

    boolean isText() {
        return lines(0, text.length());
    }

    private boolean lines(int from, int to) {
        for (int i = from; i < to; i++) {
            if (text.charAt(i) == ';') {
                return line(from, i) && lines(i + 1, to);
            }
        }
        return line(from, to);
    }

    private boolean line(int from, int to) {
        for (int i = from; i < to; i++) {
            if (text.charAt(i) == '?') {
                return is(0, from, i, 0) && is(0, i + 1, to, 0);
            }
        }
        return is(0, from, to, 0);
    }

    private static final String[] JOINING = {"|", "&", "<=>", "+-", "*/%"};

    /** Whether a span is an E (0), A, B, S, P (4) or O (5) with so many open around it. */
    private boolean is(int part, int from, int to, int open) {
        if (from >= to) {
            return false;
        }
        String key = part + ":" + from + ":" + to + ":" + open;
        Boolean before = known.get(key);
        if (before == null) {
            before = part == 5 ? isOperand(from, to, open) : isJoined(part, from, to, open);
            known.put(key, before);
        }
        return before;
    }

    private boolean isJoined(int part, int from, int to, int open) {
        if (is(part + 1, from, to, open)) {
            return true;
        }
        for (int i = to - 2; i > from; i--) {
            if (JOINING[part].indexOf(text.charAt(i)) >= 0) {
                int left = part == 2 ? 3 : part;
                if (is(left, from, i, open) && is(part + 1, i + 1, to, open)) {
                    return true;
                }
            }
        }
        return false;
    }

    private boolean isOperand(int from, int to, int open) {
        String span = text.substring(from, to);
        if (span.matches("[0-9]{1,4}") || span.matches("[lnrgbd]")) {
            return true;
        }
        char first = span.charAt(0);
        if (open == 6) {
            return false;
        }
        if (first == '!' || first == '-') {
            return is(5, from + 1, to, open + 1);
        }
        return first == '(' && span.endsWith(")") && is(0, from + 1, to - 1, open + 1);
    }

    /** What a TEXT gives with the NAMES' values, before it is held. */
    int worth(Map<Character, Integer> names) {
        for (String line : text.split(";")) {
            int mark = line.indexOf('?');
            TextModel model = new TextModel(line);
            if (mark < 0) {
                return model.worth(0, 0, line.length(), 0, names);
            }
            if (model.worth(0, 0, mark, 0, names) != 0) {
                return model.worth(0, mark + 1, line.length(), 0, names);
            }
        }
        return 0;
    }

    private int worth(int part, int from, int to, int open, Map<Character, Integer> names) {
        if (part == 5) {
            return operandWorth(from, to, open, names);
        }
        if (is(part + 1, from, to, open)) {
            return worth(part + 1, from, to, open, names);
        }
        for (int i = to - 2; i > from; i--) {
            int left = part == 2 ? 3 : part;
            if (JOINING[part].indexOf(text.charAt(i)) >= 0 && is(left, from, i, open) && is(part + 1, i + 1, to, open)) {
                int one = worth(left, from, i, open, names);
                int other = worth(part + 1, i + 1, to, open, names);
                return joined(one, text.charAt(i), other);
            }
        }
        throw new IllegalStateException(text);
    }

    private static int joined(int one, char sign, int other) {
        return switch (sign) {
            case '|' -> one != 0 || other != 0 ? 1 : 0;
            case '&' -> one != 0 && other != 0 ? 1 : 0;
            case '<' -> one < other ? 1 : 0;
            case '=' -> one == other ? 1 : 0;
            case '>' -> one > other ? 1 : 0;
            case '+' -> one + other;
            case '-' -> one - other;
            case '*' -> one * other;
            case '/' -> other == 0 ? 0 : (int) ((long) one / other);
            default -> other == 0 ? 0 : (int) ((long) one % other);
        };
    }

    private int operandWorth(int from, int to, int open, Map<Character, Integer> names) {
        char first = text.charAt(from);
        if (first == '!') {
            return worth(5, from + 1, to, open + 1, names) == 0 ? 1 : 0;
        }
        if (first == '-') {
            return -worth(5, from + 1, to, open + 1, names);
        }
        if (first == '(') {
            return worth(0, from + 1, to - 1, open + 1, names);
        }
        return names.containsKey(first) ? names.get(first) : Integer.parseInt(text.substring(from, to));
    }
}
