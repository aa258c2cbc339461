import java.util.ArrayDeque;
import java.util.ArrayList;
import java.util.List;
import java.util.Map;

/**
 * A second reader of the rule language, made another way than the class: faults by a table of what may stand
 * next, values by splitting the pieces of a text at the sign that binds least.
 */
final class SecondReader {
    static final List<String> VALUES = List.of("month", "kind", "firm", "made", "cars", "fires", "deaths",
        "dead", "speed", "sort", "knew", "part");

    static final class Piece {
        final int place;
        final String text;

        Piece(int place, String text) {
            this.place = place;
            this.text = text;
        }

        boolean isNumber() {
            return !text.isEmpty() && Character.isDigit(text.charAt(0));
        }

        boolean isValue() {
            return isNumber() || VALUES.contains(text);
        }
    }

    private SecondReader() {
    }

    /** The first fault of a text, or -1. */
    static int fault(String text) {
        return new Finder(cut(text), text.length()).find();
    }

    static List<Piece> cut(String text) {
        List<Piece> pieces = new ArrayList<>();
        int at = 0;
        while (at < text.length()) {
            int end = at + 1;
            char first = text.charAt(at);
            if (first >= 'a' && first <= 'z') {
                while (end < text.length() && text.charAt(end) >= 'a' && text.charAt(end) <= 'z') {
                    end++;
                }
            } else if (Character.isDigit(first)) {
                while (end < text.length() && Character.isDigit(text.charAt(end))) {
                    end++;
                }
            } else if ((first == '<' || first == '>') && text.startsWith("=", end)) {
                end++;
            }
            if (first != ' ') {
                pieces.add(new Piece(at, text.substring(at, end)));
            }
            at = end;
        }
        return pieces;
    }

    /** Finds the first fault by states and a stack of what is open. */
    private static final class Finder {
        private final List<Piece> pieces;
        private final int length;
        // n, [ and ( are open; C, L and R are sums of a clause, ahead of a sign and behind it.
        private final ArrayDeque<Character> open = new ArrayDeque<>();
        private String state = "thing";
        private int deep;
        private int counted;
        private int clauses;

        Finder(List<Piece> pieces, int length) {
            this.pieces = pieces;
            this.length = length;
        }

        int find() {
            for (int i = 0; i <= pieces.size(); i++) {
                Piece piece = i < pieces.size() ? pieces.get(i) : new Piece(length, "");
                int code = step(piece);
                if (code == -2) {
                    return -1;
                }
                if (code != -1) {
                    return 1 + 8 * piece.place + code;
                }
                if (piece.text.isEmpty()) {
                    return 1 + 8 * length;
                }
            }
            return -1;
        }

        private int step(Piece piece) {
            switch (state) {
                case "thing":
                    return thing(piece.text);
                case "sort":
                    if (!piece.isNumber()) {
                        return 0;
                    }
                    if (piece.text.length() > 5 || Integer.parseInt(piece.text) > 2) {
                        return 1;
                    }
                    return value('C');
                case "if":
                    state = "fact";
                    return piece.text.equals("if") ? -1 : 0;
                case "fact":
                    if (piece.text.equals("not") || piece.text.equals("[")) {
                        return opened(piece.text.charAt(0));
                    }
                    value('L');
                    return value(piece);
                case "value":
                    return value(piece);
                case "after value":
                    return afterValue(piece.text);
                default:
                    return afterFact(piece.text);
            }
        }

        private int thing(String text) {
            if (!List.of("crash", "give", "most", "recall").contains(text)) {
                return 0;
            }
            clauses++;
            if (clauses > 12) {
                return 4;
            }
            if (text.equals("crash")) {
                state = "sort";
                return -1;
            }
            if (text.equals("recall")) {
                state = "if";
                return -1;
            }
            return value('C');
        }

        private int value(char sum) {
            open.push(sum);
            state = "value";
            return -1;
        }

        private int opened(char sign) {
            if (deep == 10) {
                return 2;
            }
            deep++;
            open.push(sign);
            return -1;
        }

        private int value(Piece piece) {
            if (piece.text.equals("(")) {
                return opened('(') == 2 ? 2 : ++counted > 80 ? 3 : -1;
            }
            if (!piece.isValue()) {
                return 0;
            }
            if (piece.isNumber() && piece.text.length() > 5) {
                return 1;
            }
            state = "after value";
            return ++counted > 80 ? 3 : -1;
        }

        private int afterValue(String text) {
            if (text.equals("+") || text.equals("-") || text.equals("*")) {
                state = "value";
                return -1;
            }
            char in = open.peek();
            if (in == '(') {
                open.pop();
                deep--;
                return text.equals(")") ? -1 : 0;
            }
            if (in == 'L') {
                if (!List.of("<", "<=", "=", ">=", ">").contains(text)) {
                    return 0;
                }
                open.pop();
                value('R');
                return ++counted > 80 ? 3 : -1;
            }
            open.pop();
            if (in == 'C') {
                if (text.equals("if")) {
                    state = "fact";
                    return -1;
                }
                return endOfClause(text);
            }
            return factEnds(text);
        }

        private int factEnds(String text) {
            while (!open.isEmpty() && open.peek() == 'n') {
                open.pop();
                deep--;
            }
            state = "after fact";
            return afterFact(text);
        }

        private int afterFact(String text) {
            if (text.equals("and") || text.equals("or")) {
                state = "fact";
                return -1;
            }
            if (open.isEmpty()) {
                return endOfClause(text);
            }
            if (!text.equals("]")) {
                return 0;
            }
            open.pop();
            deep--;
            while (!open.isEmpty() && open.peek() == 'n') {
                open.pop();
                deep--;
            }
            return -1;
        }

        private int endOfClause(String text) {
            state = "thing";
            return text.isEmpty() ? -2 : text.equals(";") ? -1 : 0;
        }
    }

    /** The sum of the first true clause of a thing (0 for recall), or null. */
    static Long told(List<Piece> pieces, String thing, int sort, Map<String, Long> words) {
        int from = 0;
        while (from < pieces.size()) {
            int to = next(pieces, from, pieces.size(), ";");
            int test = next(pieces, from, to, "if");
            int sum = from + 1;
            boolean fits = pieces.get(from).text.equals(thing);
            if (thing.equals("crash") && fits) {
                fits = Integer.parseInt(pieces.get(sum).text) == sort;
                sum++;
            }
            if (fits && (test == to || isTrue(pieces, test + 1, to, words))) {
                return thing.equals("recall") ? 0L : sum(pieces, sum, test, words);
            }
            from = to + 1;
        }
        return null;
    }

    /** The first place of one of some texts that lies in no bracket, or to. */
    private static int next(List<Piece> pieces, int from, int to, String... texts) {
        int deep = 0;
        for (int i = from; i < to; i++) {
            String text = pieces.get(i).text;
            deep += text.equals("(") || text.equals("[") ? 1 : text.equals(")") || text.equals("]") ? -1 : 0;
            if (deep == 0 && List.of(texts).contains(text)) {
                return i;
            }
        }
        return to;
    }

    private static boolean isTrue(List<Piece> pieces, int from, int to, Map<String, Long> words) {
        int or = next(pieces, from, to, "or");
        if (or < to) {
            return isTrue(pieces, from, or, words) || isTrue(pieces, or + 1, to, words);
        }
        int and = next(pieces, from, to, "and");
        if (and < to) {
            return isTrue(pieces, from, and, words) && isTrue(pieces, and + 1, to, words);
        }
        if (pieces.get(from).text.equals("not")) {
            return !isTrue(pieces, from + 1, to, words);
        }
        if (pieces.get(from).text.equals("[")) {
            return isTrue(pieces, from + 1, to - 1, words);
        }
        int sign = next(pieces, from, to, "<", "<=", "=", ">=", ">");
        int side = Long.compare(sum(pieces, from, sign, words), sum(pieces, sign + 1, to, words));
        switch (pieces.get(sign).text) {
            case "<":
                return side < 0;
            case "<=":
                return side <= 0;
            case "=":
                return side == 0;
            case ">=":
                return side >= 0;
            default:
                return side > 0;
        }
    }

    private static long sum(List<Piece> pieces, int from, int to, Map<String, Long> words) {
        long sum = 0;
        long sign = 1;
        int at = from;
        while (at < to) {
            int end = next(pieces, at, to, "+", "-");
            sum += sign * product(pieces, at, end, words);
            sign = end < to && pieces.get(end).text.equals("-") ? -1 : 1;
            at = end + 1;
        }
        return sum;
    }

    private static long product(List<Piece> pieces, int from, int to, Map<String, Long> words) {
        long product = 1;
        int at = from;
        while (at < to) {
            int end = next(pieces, at, to, "*");
            Piece first = pieces.get(at);
            if (first.text.equals("(")) {
                product *= sum(pieces, at + 1, end - 1, words);
            } else {
                product *= first.isNumber() ? Long.parseLong(first.text) : words.get(first.text);
            }
            at = end + 1;
        }
        return product;
    }
}
