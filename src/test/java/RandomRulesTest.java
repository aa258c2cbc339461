import java.util.ArrayDeque;
import java.util.ArrayList;
import java.util.List;
import java.util.Map;
import java.util.Random;
import java.util.TreeMap;

/**
 * Promises 16, 18, 20 and 44 beside a second reader of the language, made another way: faults by a table of
 * what may stand next, values by splitting the pieces of a text at the sign that binds least.
 */
public final class RandomRulesTest {
    private static final List<String> VALUES = List.of("month", "kind", "firm", "made", "cars", "fires", "deaths",
        "dead", "speed", "sort", "knew", "part");
    private static final List<String> SCRAPS = List.of("month", "kind", "firm", "made", "cars", "fires", "deaths",
        "dead", "speed", "sort", "knew", "part", "crash", "give", "most", "recall", "if", "or", "and", "not", "(",
        ")", "[", "]", "+", "-", "*", "<", "<=", "=", ">=", ">", ";", "0", "1", "2", "3", "17", "99999", "100000",
        "foo", " ", "?", "crash 1", "if [", "((", "not not", "1=1", "\u00e9");

    private static final class Piece {
        final int place;
        final String text;

        Piece(int place, String text) {
            this.place = place;
            this.text = text;
        }

        boolean isNumber() {
            return !text.isEmpty() && Character.isDigit(text.charAt(0));
        }

        boolean isValue() {
            return isNumber() || VALUES.contains(text);
        }
    }

    private RandomRulesTest() {
    }

    public static void main(String[] args) {
        Random random = new Random(1978);
        int right = 0;
        for (int n = 0; n < 6000; n++) {
            String text = new Writer(random).rule();
            for (int i = random.nextInt(4) - 1; i > 0; i--) {
                text = spoil(text, random);
            }
            if (text.length() <= 400) {
                right += compare(text) ? 1 : 0;
            }
        }
        Expect.due("enough right ones among them", right > 1000, true);
        Expect.finish("RandomRulesTest");
    }

    private static String spoil(String text, Random random) {
        int at = random.nextInt(text.length() + 1);
        int to = Math.min(text.length(), at + random.nextInt(3));
        return text.substring(0, at) + SCRAPS.get(random.nextInt(SCRAPS.size())) + text.substring(to);
    }

    /** True if the text is a rule. */
    private static boolean compare(String text) {
        TankBehind x = new TankBehind();
        x.person(2);
        x.kind(0, 0, 0, 0);
        x.kind(2, 100, 100, 100);
        x.part(77, 0, 0, 9999);
        x.clock(3);
        x.car(1, 2, 0);
        x.car(0, 2, 0);
        x.car(1, 3, 0);
        x.crash(0, 2, 2, 90, 4, true, false);
        List<Piece> pieces = cut(text);
        int fault = new Finder(pieces, text.length()).find();
        Expect.due("rule \"" + text + "\"", Expect.tell(x, text, 3), fault == -1 ? 0 : -2 - fault);
        if (fault != -1) {
            return false;
        }
        for (int month = 3; month < 6; month++) {
            Map<String, Long> words = words(month, month);
            for (int sort = 0; sort < 3; sort++) {
                Long speed = told(pieces, "crash", sort, words);
                long want = speed == null ? -1 : Math.max(0, Math.min(200, speed));
                Expect.due("must(1, " + sort + ", " + month + ") by \"" + text + "\"", x.must(1, sort, month), want);
            }
            boolean owed = told(pieces, "recall", 0, words(month, 0)) != null;
            Expect.due("owed(1, " + month + ") by \"" + text + "\"", x.owed(1, month), owed ? 1 : 0);
        }
        Map<String, Long> words = words(3, 2);
        words.put("dead", 4L);
        words.put("speed", 90L);
        words.put("sort", 2L);
        words.put("part", 77L);
        Long give = told(pieces, "give", 0, words);
        Long most = told(pieces, "most", 0, words);
        long want = give == null ? 0 : Math.max(0, give);
        Expect.due("jury(0) by \"" + text + "\"", x.jury(0), most == null ? want : Math.min(want, Math.max(0, most)));
        return true;
    }

    private static Map<String, Long> words(int month, int made) {
        Map<String, Long> words = new TreeMap<>();
        VALUES.forEach(word -> words.put(word, 0L));
        words.put("month", (long) month);
        words.put("made", (long) made);
        words.put("kind", 1L);
        words.put("firm", 2L);
        words.put("cars", 2L);
        words.put("fires", 1L);
        words.put("deaths", 4L);
        return words;
    }

    private static List<Piece> cut(String text) {
        List<Piece> pieces = new ArrayList<>();
        int at = 0;
        while (at < text.length()) {
            int end = at + 1;
            char first = text.charAt(at);
            if (first >= 'a' && first <= 'z') {
                while (end < text.length() && text.charAt(end) >= 'a' && text.charAt(end) <= 'z') {
                    end++;
                }
            } else if (Character.isDigit(first)) {
                while (end < text.length() && Character.isDigit(text.charAt(end))) {
                    end++;
                }
            } else if ((first == '<' || first == '>') && text.startsWith("=", end)) {
                end++;
            }
            if (first != ' ') {
                pieces.add(new Piece(at, text.substring(at, end)));
            }
            at = end;
        }
        return pieces;
    }

    /** Finds the first fault by states and a stack of what is open. */
    private static final class Finder {
        private final List<Piece> pieces;
        private final int length;
        // n, [ and ( are open; C, L and R are sums of a clause, ahead of a sign and behind it.
        private final ArrayDeque<Character> open = new ArrayDeque<>();
        private String state = "thing";
        private int deep;
        private int counted;
        private int clauses;

        Finder(List<Piece> pieces, int length) {
            this.pieces = pieces;
            this.length = length;
        }

        int find() {
            for (int i = 0; i <= pieces.size(); i++) {
                Piece piece = i < pieces.size() ? pieces.get(i) : new Piece(length, "");
                int code = step(piece);
                if (code == -2) {
                    return -1;
                }
                if (code != -1) {
                    return 1 + 8 * piece.place + code;
                }
                if (piece.text.isEmpty()) {
                    return 1 + 8 * length;
                }
            }
            return -1;
        }

        private int step(Piece piece) {
            switch (state) {
                case "thing":
                    return thing(piece.text);
                case "sort":
                    if (!piece.isNumber()) {
                        return 0;
                    }
                    if (piece.text.length() > 5 || Integer.parseInt(piece.text) > 2) {
                        return 1;
                    }
                    return value('C');
                case "if":
                    state = "fact";
                    return piece.text.equals("if") ? -1 : 0;
                case "fact":
                    if (piece.text.equals("not") || piece.text.equals("[")) {
                        return opened(piece.text.charAt(0));
                    }
                    value('L');
                    return value(piece);
                case "value":
                    return value(piece);
                case "after value":
                    return afterValue(piece.text);
                default:
                    return afterFact(piece.text);
            }
        }

        private int thing(String text) {
            if (!List.of("crash", "give", "most", "recall").contains(text)) {
                return 0;
            }
            clauses++;
            if (clauses > 12) {
                return 4;
            }
            if (text.equals("crash")) {
                state = "sort";
                return -1;
            }
            if (text.equals("recall")) {
                state = "if";
                return -1;
            }
            return value('C');
        }

        private int value(char sum) {
            open.push(sum);
            state = "value";
            return -1;
        }

        private int opened(char sign) {
            if (deep == 10) {
                return 2;
            }
            deep++;
            open.push(sign);
            return -1;
        }

        private int value(Piece piece) {
            if (piece.text.equals("(")) {
                return opened('(') == 2 ? 2 : ++counted > 80 ? 3 : -1;
            }
            if (!piece.isValue()) {
                return 0;
            }
            if (piece.isNumber() && piece.text.length() > 5) {
                return 1;
            }
            state = "after value";
            return ++counted > 80 ? 3 : -1;
        }

        private int afterValue(String text) {
            if (text.equals("+") || text.equals("-") || text.equals("*")) {
                state = "value";
                return -1;
            }
            char in = open.peek();
            if (in == '(') {
                open.pop();
                deep--;
                return text.equals(")") ? -1 : 0;
            }
            if (in == 'L') {
                if (!List.of("<", "<=", "=", ">=", ">").contains(text)) {
                    return 0;
                }
                open.pop();
                value('R');
                return ++counted > 80 ? 3 : -1;
            }
            open.pop();
            if (in == 'C') {
                if (text.equals("if")) {
                    state = "fact";
                    return -1;
                }
                return endOfClause(text);
            }
            return factEnds(text);
        }

        private int factEnds(String text) {
            while (!open.isEmpty() && open.peek() == 'n') {
                open.pop();
                deep--;
            }
            state = "after fact";
            return afterFact(text);
        }

        private int afterFact(String text) {
            if (text.equals("and") || text.equals("or")) {
                state = "fact";
                return -1;
            }
            if (open.isEmpty()) {
                return endOfClause(text);
            }
            if (!text.equals("]")) {
                return 0;
            }
            open.pop();
            deep--;
            while (!open.isEmpty() && open.peek() == 'n') {
                open.pop();
                deep--;
            }
            return -1;
        }

        private int endOfClause(String text) {
            state = "thing";
            return text.isEmpty() ? -2 : text.equals(";") ? -1 : 0;
        }
    }

    /** The sum of the first true clause of a thing (0 for recall), or null. */
    private static Long told(List<Piece> pieces, String thing, int sort, Map<String, Long> words) {
        int from = 0;
        while (from < pieces.size()) {
            int to = next(pieces, from, pieces.size(), ";");
            int test = next(pieces, from, to, "if");
            int sum = from + 1;
            boolean fits = pieces.get(from).text.equals(thing);
            if (thing.equals("crash") && fits) {
                fits = Integer.parseInt(pieces.get(sum).text) == sort;
                sum++;
            }
            if (fits && (test == to || isTrue(pieces, test + 1, to, words))) {
                return thing.equals("recall") ? 0L : sum(pieces, sum, test, words);
            }
            from = to + 1;
        }
        return null;
    }

    /** The first place of one of some texts that lies in no bracket, or to. */
    private static int next(List<Piece> pieces, int from, int to, String... texts) {
        int deep = 0;
        for (int i = from; i < to; i++) {
            String text = pieces.get(i).text;
            deep += text.equals("(") || text.equals("[") ? 1 : text.equals(")") || text.equals("]") ? -1 : 0;
            if (deep == 0 && List.of(texts).contains(text)) {
                return i;
            }
        }
        return to;
    }

    private static boolean isTrue(List<Piece> pieces, int from, int to, Map<String, Long> words) {
        int or = next(pieces, from, to, "or");
        if (or < to) {
            return isTrue(pieces, from, or, words) || isTrue(pieces, or + 1, to, words);
        }
        int and = next(pieces, from, to, "and");
        if (and < to) {
            return isTrue(pieces, from, and, words) && isTrue(pieces, and + 1, to, words);
        }
        if (pieces.get(from).text.equals("not")) {
            return !isTrue(pieces, from + 1, to, words);
        }
        if (pieces.get(from).text.equals("[")) {
            return isTrue(pieces, from + 1, to - 1, words);
        }
        int sign = next(pieces, from, to, "<", "<=", "=", ">=", ">");
        int side = Long.compare(sum(pieces, from, sign, words), sum(pieces, sign + 1, to, words));
        switch (pieces.get(sign).text) {
            case "<":
                return side < 0;
            case "<=":
                return side <= 0;
            case "=":
                return side == 0;
            case ">=":
                return side >= 0;
            default:
                return side > 0;
        }
    }

    private static long sum(List<Piece> pieces, int from, int to, Map<String, Long> words) {
        long sum = 0;
        long sign = 1;
        int at = from;
        while (at < to) {
            int end = next(pieces, at, to, "+", "-");
            sum += sign * product(pieces, at, end, words);
            sign = end < to && pieces.get(end).text.equals("-") ? -1 : 1;
            at = end + 1;
        }
        return sum;
    }

    private static long product(List<Piece> pieces, int from, int to, Map<String, Long> words) {
        long product = 1;
        int at = from;
        while (at < to) {
            int end = next(pieces, at, to, "*");
            Piece first = pieces.get(at);
            if (first.text.equals("(")) {
                product *= sum(pieces, at + 1, end - 1, words);
            } else {
                product *= first.isNumber() ? Long.parseLong(first.text) : words.get(first.text);
            }
            at = end + 1;
        }
        return product;
    }

    /** Writes right rules, but for their length, depth and count. */
    private static final class Writer {
        private final Random random;
        private final StringBuilder out = new StringBuilder();

        Writer(Random random) {
            this.random = random;
        }

        String rule() {
            int clauses = random.nextInt(12) == 0 ? 11 + random.nextInt(3) : 1 + random.nextInt(5);
            for (int i = 0; i < clauses; i++) {
                put(i == 0 ? "" : ";");
                clause(clauses > 10 ? 0 : 1 + random.nextInt(4));
            }
            return out.toString();
        }

        private void put(String text) {
            if (random.nextInt(3) == 0) {
                out.append(' ');
            }
            boolean joins = out.length() > 0 && !text.isEmpty()
                && Character.isLetterOrDigit(out.charAt(out.length() - 1)) && Character.isLetterOrDigit(text.charAt(0));
            out.append(joins ? " " : "").append(text);
        }

        private void clause(int size) {
            int thing = random.nextInt(6);
            if (thing < 3) {
                put("crash");
                put(String.valueOf(thing));
                sum(size);
            } else if (thing == 5) {
                put("recall");
            } else {
                put(thing == 3 ? "give" : "most");
                sum(size);
            }
            if (thing == 5 || random.nextInt(2) == 0) {
                put("if");
                test(size);
            }
        }

        private void test(int size) {
            fact(size);
            for (int i = random.nextInt(size + 2) - 1; i > 0; i--) {
                put(random.nextBoolean() ? "or" : "and");
                fact(size);
            }
        }

        private void fact(int size) {
            int sort = size == 0 ? 9 : random.nextInt(6);
            if (sort == 0) {
                put("not");
                fact(size - (random.nextInt(9) == 0 ? 0 : 1));
            } else if (sort == 1) {
                put("[");
                test(size - 1);
                put("]");
            } else {
                sum(size - 1);
                put(List.of("<", "<=", "=", ">=", ">").get(random.nextInt(5)));
                sum(size - 1);
            }
        }

        private void sum(int size) {
            value(size);
            for (int i = random.nextInt(Math.max(0, size) + 2) - 1; i > 0; i--) {
                put(List.of("+", "-", "*").get(random.nextInt(3)));
                value(size);
            }
        }

        private void value(int size) {
            int sort = random.nextInt(8);
            if (sort == 0 && size > 0) {
                int deep = random.nextInt(6) == 0 ? random.nextInt(9) : 1;
                for (int i = 0; i < deep; i++) {
                    put("(");
                }
                sum(size - 1);
                for (int i = 0; i < deep; i++) {
                    put(")");
                }
            } else if (sort < 4) {
                put(String.valueOf(random.nextInt(sort == 1 ? 99999 : 9)));
            } else {
                put(VALUES.get(random.nextInt(VALUES.size())));
            }
        }
    }
}
