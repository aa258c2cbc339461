/** What the tests share: counting wrong answers, and putting a text on the tape. */
final class Expect {
    private static int wrong = 0;

    private Expect() {
    }

    static void due(String call, long got, long want) {
        if (got != want) {
            wrong++;
            System.out.println(call + " answered " + got + ", due is " + want);
        }
    }

    static void due(String call, boolean got, boolean want) {
        due(call, got ? 1L : 0L, want ? 1L : 0L);
    }

    /** Puts a text behind what the tape holds. */
    static void write(TankBehind x, String text) {
        int before = x.count(11);
        for (int from = 0; from < text.length(); from += 20) {
            int[] numbers = new int[5];
            for (int i = 0; i < 20; i++) {
                int sign = from + i < text.length() ? text.charAt(from + i) : 0;
                numbers[i / 4] = numbers[i / 4] << 8 | sign & 255;
            }
            x.feed(numbers[0], numbers[1], numbers[2], numbers[3], numbers[4]);
        }
        x.end(before + text.length());
    }

    /** Tells a text as a rule. */
    static int tell(TankBehind x, String text, int month) {
        write(x, text);
        return x.rule(month);
    }

    /** What rule() answers to a fault. */
    static int fault(int place, int code) {
        return -2 - (1 + 8 * place + code);
    }

    static void finish(String test) {
        System.out.println(test + ": " + (wrong == 0 ? "all answers are as due" : wrong + " answers are not as due"));
        if (wrong != 0) {
            System.exit(1);
        }
    }
}
