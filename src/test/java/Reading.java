import java.util.ArrayDeque;
import java.util.Deque;
import java.util.List;

/**
 * A TEXT read a second time, in another way than the class reads it: no rule calls another, what is open and what waits lie
 * on two stacks. It tells the FAULT, or what the three parts say.
 */
final class Reading {
    private static final List<String> KEYS = List.of("counts", "pays", "sees", "or", "and", "not");
    private static final List<String> NAMES = List.of("mine", "his", "hour", "term", "more", "watched");
    private static final String NEGATIVE = "0-", END = "";
    private static final int MOST_OPEN = 5;

    private final String tape;
    private final RandomText.Said[] parts = new RandomText.Said[3];
    /** The place of the FAULT, or -1. */
    final int fault;

    private int from;
    private int to;
    private String token;
    private final Deque<String> waiting = new ArrayDeque<>();
    private final Deque<RandomText.Said> values = new ArrayDeque<>();
    // Whether < or = stood already in the NOT at hand; one for each ( that is open, and one.
    private final Deque<Boolean> compared = new ArrayDeque<>();

    Reading(String tape) {
        this.tape = tape;
        fault = read() ? -1 : from;
    }

    House.Law law() {
        return new House.Law(tape, parts);
    }

    private boolean read() {
        next();
        for (int part = 0; part < 3; part++) {
            if (!token.equals(KEYS.get(part))) return false;
            next();
            if (!readPart()) return false;
            parts[part] = values.pop();
        }
        return token.equals(END) && from == tape.length();
    }

    private boolean readPart() {
        boolean wantsOne = true, mayNegate = true;
        compared.push(false);
        while (true) {
            if (wantsOne) {
                boolean opens = token.equals("(") || token.equals("-") || token.equals("not") && mayNegate;
                if (opens && open() == MOST_OPEN || !opens && !isOne()) return false;
                if (opens) waiting.push(token.equals("-") ? NEGATIVE : token);
                else values.push(one());
                if (token.equals("(")) compared.push(false);
                mayNegate = token.equals("(") || token.equals("not");
                wantsOne = opens;
            } else if (token.equals(")") || token.equals(";")) {
                if (!closes()) return false;
                if (token.equals(";")) break;
            } else {
                if (!joins()) return false;
                wantsOne = true;
                mayNegate = rank(token) < rank("not");
            }
            next();
        }
        next();
        return true;
    }

    private int open() {
        int open = 0;
        for (String sign : waiting) open += sign.equals("(") || sign.equals("not") || sign.equals(NEGATIVE) ? 1 : 0;
        return open;
    }

    private boolean isOne() {
        return NAMES.contains(token) || token.matches("[0-9]{1,4}");
    }

    private RandomText.Said one() {
        int name = NAMES.indexOf(token);
        if (name >= 0) return names -> names[name];
        int number = Integer.parseInt(token);
        return names -> number;
    }

    private static int rank(String sign) {
        return List.of("(", "or", "and", "not", "<", "=", "-", "+", "*", NEGATIVE).indexOf(sign);
    }

    /** What binds no less than this is done with. */
    private void settle(int rank) {
        while (!waiting.isEmpty() && rank(waiting.peek()) >= rank) settleOne(waiting.pop());
    }

    private void settleOne(String sign) {
        RandomText.Said b = values.pop();
        if (sign.equals("not")) values.push(names -> b.by(names) == 0 ? 1 : 0);
        if (sign.equals(NEGATIVE)) values.push(names -> -b.by(names));
        if (sign.equals("not") || sign.equals(NEGATIVE)) return;
        RandomText.Said a = values.pop();
        values.push(names -> joined(sign, a.by(names), b.by(names)));
    }

    private static int joined(String sign, int a, int b) {
        if (sign.equals("or")) return (a != 0) | (b != 0) ? 1 : 0;
        if (sign.equals("and")) return (a != 0) & (b != 0) ? 1 : 0;
        if (sign.equals("<")) return a < b ? 1 : 0;
        if (sign.equals("=")) return a == b ? 1 : 0;
        // The lowest 32 bits of what a long tells are what an int that wraps tells.
        return (int) (sign.equals("+") ? (long) a + b : sign.equals("-") ? (long) a - b : (long) a * b);
    }

    private boolean joins() {
        int rank = rank(token);
        boolean compares = token.equals("<") || token.equals("=");
        if (rank < rank("or") || token.equals("not") || compares && compared.peek()) return false;
        settle(compares ? rank("<") : token.equals("+") ? rank("-") : rank);
        if (rank < rank("not") || compares) {
            compared.pop();
            compared.push(compares);
        }
        waiting.push(token);
        return true;
    }

    private boolean closes() {
        settle(rank("or"));
        boolean inBrackets = !waiting.isEmpty();
        if (inBrackets != token.equals(")")) return false;
        compared.pop();
        if (inBrackets) waiting.pop();
        // A - ends with the ONE in brackets behind it.
        if (inBrackets) settle(rank(NEGATIVE));
        return true;
    }

    private void next() {
        from = to;
        while (from < tape.length() && " \n".indexOf(tape.charAt(from)) >= 0) from++;
        to = from;
        while (to < tape.length() && isLike(tape.charAt(from), tape.charAt(to))) to++;
        if (to == from && to < tape.length()) to++;
        token = tape.substring(from, to);
        // What is no TOKEN at all must not look like one of these.
        if (token.equals(NEGATIVE)) token = "?";
    }

    private static boolean isLike(char first, char c) {
        boolean letters = first >= 'a' && first <= 'z' && c >= 'a' && c <= 'z';
        return letters || first >= '0' && first <= '9' && c >= '0' && c <= '9';
    }
}
