import java.util.List;
import java.util.Random;

/** Writes right rules, but for their length, depth and count. */
final class RuleWriter {
    private final Random random;
    private final StringBuilder out = new StringBuilder();

    RuleWriter(Random random) {
        this.random = random;
    }

    String rule() {
        int clauses = random.nextInt(12) == 0 ? 11 + random.nextInt(3) : 1 + random.nextInt(5);
        for (int i = 0; i < clauses; i++) {
            put(i == 0 ? "" : ";");
            clause(clauses > 10 ? 0 : 1 + random.nextInt(4));
        }
        return out.toString();
    }

    private void put(String text) {
        if (random.nextInt(3) == 0) {
            out.append(' ');
        }
        boolean joins = out.length() > 0 && !text.isEmpty()
            && Character.isLetterOrDigit(out.charAt(out.length() - 1)) && Character.isLetterOrDigit(text.charAt(0));
        out.append(joins ? " " : "").append(text);
    }

    private void clause(int size) {
        int thing = random.nextInt(6);
        if (thing < 3) {
            put("crash");
            put(String.valueOf(thing));
            sum(size);
        } else if (thing == 5) {
            put("recall");
        } else {
            put(thing == 3 ? "give" : "most");
            sum(size);
        }
        if (thing == 5 || random.nextInt(2) == 0) {
            put("if");
            test(size);
        }
    }

    private void test(int size) {
        fact(size);
        for (int i = random.nextInt(size + 2) - 1; i > 0; i--) {
            put(random.nextBoolean() ? "or" : "and");
            fact(size);
        }
    }

    private void fact(int size) {
        int sort = size == 0 ? 9 : random.nextInt(6);
        if (sort == 0) {
            put("not");
            fact(size - (random.nextInt(9) == 0 ? 0 : 1));
        } else if (sort == 1) {
            put("[");
            test(size - 1);
            put("]");
        } else {
            sum(size - 1);
            put(List.of("<", "<=", "=", ">=", ">").get(random.nextInt(5)));
            sum(size - 1);
        }
    }

    private void sum(int size) {
        value(size);
        for (int i = random.nextInt(Math.max(0, size) + 2) - 1; i > 0; i--) {
            put(List.of("+", "-", "*").get(random.nextInt(3)));
            value(size);
        }
    }

    private void value(int size) {
        int sort = random.nextInt(8);
        if (sort == 0 && size > 0) {
            int deep = random.nextInt(6) == 0 ? random.nextInt(9) : 1;
            for (int i = 0; i < deep; i++) {
                put("(");
            }
            sum(size - 1);
            for (int i = 0; i < deep; i++) {
                put(")");
            }
        } else if (sort < 4) {
            put(String.valueOf(random.nextInt(sort == 1 ? 99999 : 9)));
        } else {
            put(SecondReader.VALUES.get(random.nextInt(SecondReader.VALUES.size())));
        }
    }
}
