/** Promises 28 to 37: memos and their turns, steps of the plan and what changes cost. */
public final class MemosAndStepsTest {
    private static final long WITHOUT = -9000000000000000000L;

    private MemosAndStepsTest() {
    }

    public static void main(String[] args) {
        memos();
        rows();
        allRows();
        sums();
        turns();
        turnsByTrial();
        beside();
        steps();
        stepsAsTold();
        slack();
        slackByTrial();
        putOff();
        changes();
        cheap();
        cheapByTrial();
        Expect.finish("MemosAndStepsTest");
    }

    private static void memos() {
        TankBehind x = new TankBehind();
        Expect.due("without person", x.memo(0), -1);
        x.person(-1);
        Expect.due("person -1", x.memo(-1), -1);
        Expect.due("person 1", x.memo(1), -1);
        for (int i = 0; i < 20; i++) {
            Expect.due("memo", x.memo(0), i);
        }
        Expect.due("a memo too many", x.memo(0), -1);
        Expect.due("memos", x.count(8), 20);
    }

    private static void rows() {
        TankBehind x = new TankBehind();
        x.person(0);
        Expect.due("no memo", x.row(0, true, 1, 1), -1);
        x.memo(0);
        x.memo(0);
        Expect.due("memo 2", x.row(2, true, 1, 1), -1);
        Expect.due("memo -1", x.row(-1, true, 1, 1), -1);
        Expect.due("count -1", x.row(0, true, -1, 1), -1);
        Expect.due("count 1000000", x.row(0, true, 1000000, 1), -1);
        Expect.due("coins -1", x.row(0, true, 1, -1), -1);
        Expect.due("coins 10000000", x.row(0, true, 1, 10000000), -1);
        for (int i = 0; i < 6; i++) {
            Expect.due("row", x.row(0, i % 2 == 0, 999999, 9999999), i);
        }
        Expect.due("a row too many", x.row(0, true, 1, 1), -1);
        Expect.due("a row of another memo", x.row(1, false, 0, 0), 0);
        Expect.due("sum", x.memoSum(0), 0);
        Expect.due("the least count", x.row(1, true, 0, 9999999), 1);
        Expect.due("the least coins", x.row(1, true, 999999, 0), 2);
        Expect.due("nothing yet", x.memoSum(1), 0);
        Expect.due("the most of both", x.row(1, true, 999999, 9999999), 3);
        Expect.due("their product", x.memoSum(1), 9999989000001L);
    }

    /** Each of all rows is its memo's alone. */
    private static void allRows() {
        TankBehind x = new TankBehind();
        x.person(0);
        for (int memo = 0; memo < 20; memo++) {
            x.memo(0);
        }
        for (int row = 0; row < 6; row++) {
            for (int memo = 0; memo < 20; memo++) {
                Expect.due("row of memo " + memo, x.row(memo, row % 2 == 0, memo + 1, 10 - row), row);
            }
        }
        for (int memo = 0; memo < 20; memo++) {
            // 10 - 9 + 8 - 7 + 6 - 5 is 3; without row 0 it is 7 below 0.
            Expect.due("sum of memo " + memo, x.memoSum(memo), 3L * (memo + 1));
            Expect.due("turn of memo " + memo, x.turnsAt(memo, 0, 1), 7);
            Expect.due("turn of its last row", x.turnsAt(memo, 5, 1), 8);
            Expect.due("a row too many", x.row(memo, true, 1, 1), -1);
            Expect.due("beside another", x.beside(memo, (memo + 1) % 20, 63), 3 * (memo + 1));
            Expect.due("row 6", x.turnsAt(memo, 6, 0), -2);
        }
    }

    private static void sums() {
        TankBehind x = new TankBehind();
        x.person(0);
        Expect.due("no memo", x.memoSum(0), WITHOUT);
        x.memo(0);
        Expect.due("memo -1", x.memoSum(-1), WITHOUT);
        Expect.due("without rows", x.memoSum(0), 0);
        x.row(0, true, 3, 100);
        x.row(0, false, 7, 10);
        Expect.due("saved less paid", x.memoSum(0), 230);
        x.row(0, false, 24, 10);
        Expect.due("below 0", x.memoSum(0), -10);
        x.memo(0);
        for (int i = 0; i < 6; i++) {
            x.row(1, true, 999999, 9999999);
        }
        Expect.due("six great rows", x.memoSum(1), 6L * 999999L * 9999999L);
    }

    private static void turns() {
        TankBehind x = new TankBehind();
        x.person(0);
        x.memo(0);
        x.row(0, true, 10, 30);
        x.row(0, false, 10, 20);
        // 300 saved, 200 paid.
        Expect.due("fewer saved", x.turnsAt(0, 0, 0), 6);
        Expect.due("less for each saved", x.turnsAt(0, 0, 1), 20);
        Expect.due("more paid", x.turnsAt(0, 1, 0), 15);
        Expect.due("more for each paid", x.turnsAt(0, 1, 1), 30);
        x.row(0, false, 10, 11);
        // Now 10 below 0.
        Expect.due("more saved", x.turnsAt(0, 0, 0), 11);
        Expect.due("more for each saved", x.turnsAt(0, 0, 1), 32);
        Expect.due("fewer paid", x.turnsAt(0, 1, 0), 9);
        Expect.due("less for each paid", x.turnsAt(0, 1, 1), 18);
        Expect.due("row 3", x.turnsAt(0, 3, 0), -2);
        Expect.due("row -1", x.turnsAt(0, -1, 0), -2);
        Expect.due("memo 1", x.turnsAt(1, 0, 0), -2);
        Expect.due("memo -1", x.turnsAt(-1, 0, 0), -2);
        Expect.due("what 2", x.turnsAt(0, 0, 2), -2);
        Expect.due("what -1", x.turnsAt(0, 0, -1), -2);
        x.memo(0);
        x.row(1, true, 1, 5);
        x.row(1, true, 2, 0);
        Expect.due("0 turns it", x.turnsAt(1, 0, 0), 0);
        Expect.due("none with 0 each", x.turnsAt(1, 1, 0), -1);
        x.row(1, true, 1, 1);
        Expect.due("none though 0", x.turnsAt(1, 2, 0), -1);
        x.memo(0);
        x.row(2, true, 0, 1);
        x.row(2, false, 999999, 9999999);
        Expect.due("above what a row may hold", x.turnsAt(2, 0, 0), 999999L * 9999999L + 1L);
        x.memo(0);
        x.row(3, false, 3, 0);
        Expect.due("none with 0 coins", x.turnsAt(3, 0, 0), -1);
        Expect.due("coins of a paid row at 0", x.turnsAt(3, 0, 1), -1);
        x.row(3, true, 0, 0);
        Expect.due("none of 0 and 0", x.turnsAt(3, 1, 0), -1);
        Expect.due("none of 0 and 0, coins", x.turnsAt(3, 1, 1), -1);
        x.row(3, true, 1, 7);
        Expect.due("paid coins up to the sum", x.turnsAt(3, 0, 1), 3);
        Expect.due("saved down to 0", x.turnsAt(3, 2, 1), 0);
        for (int n : new int[] {-1, 6, 20, Integer.MIN_VALUE, Integer.MAX_VALUE}) {
            Expect.due("turnsAt(" + n + ", 0, 0)", x.turnsAt(n, 0, 0), -2);
            Expect.due("turnsAt(0, " + n + ", 0)", x.turnsAt(0, n, 0), -2);
            Expect.due("turnsAt(0, 0, " + n + ")", x.turnsAt(0, 0, n), -2);
            Expect.due("memoSum(" + n + ")", x.memoSum(n), WITHOUT);
            Expect.due("beside(" + n + ", 0, 0)", x.beside(n, 0, 0), WITHOUT);
            Expect.due("beside(0, " + n + ", 0)", x.beside(0, n, 0), WITHOUT);
        }
        for (int rows : new int[] {-1, 64, 128, Integer.MIN_VALUE, Integer.MAX_VALUE}) {
            Expect.due("beside(0, 1, " + rows + ")", x.beside(0, 1, rows), WITHOUT);
        }
    }

    private static TankBehind memoOf(int[] counts, int[] coins, int signs) {
        TankBehind x = new TankBehind();
        x.person(0);
        x.memo(0);
        for (int i = 0; i < counts.length; i++) {
            x.row(0, (signs >> i & 1) == 1, counts[i], coins[i]);
        }
        return x;
    }

    private static boolean isAbove(int[] counts, int[] coins, int signs) {
        long sum = 0;
        for (int i = 0; i < counts.length; i++) {
            sum += ((signs >> i & 1) == 1 ? 1 : -1) * (long) counts[i] * coins[i];
        }
        return sum > 0;
    }

    private static void turnsByTrial() {
        for (int n = 0; n < 3000; n++) {
            int[] counts = {n % 5, n / 5 % 5, n / 25 % 3};
            int[] coins = {n % 7, n / 3 % 4, n / 11 % 3};
            int signs = n / 13 % 8;
            TankBehind x = memoOf(counts, coins, signs);
            boolean above = isAbove(counts, coins, signs);
            for (int row = 0; row < 3; row++) {
                for (int what = 0; what < 2; what++) {
                    int[] numbers = what == 0 ? counts : coins;
                    int own = numbers[row];
                    int want = -1;
                    for (int by = 1; by < 200 && want == -1; by++) {
                        numbers[row] = own + by;
                        if (isAbove(counts, coins, signs) != above) {
                            want = own + by;
                        }
                        numbers[row] = own - by;
                        if (own - by >= 0 && isAbove(counts, coins, signs) != above) {
                            want = own - by;
                        }
                    }
                    numbers[row] = own;
                    Expect.due("memo " + n + ".turnsAt(0, " + row + ", " + what + ")", x.turnsAt(0, row, what), want);
                }
            }
        }
    }

    private static void beside() {
        TankBehind x = new TankBehind();
        x.person(0);
        x.memo(0);
        x.memo(0);
        x.row(0, true, 10, 5);
        x.row(0, false, 3, 7);
        x.row(0, true, 2, 4);
        x.row(1, false, 9, 100);
        x.row(1, true, 9, 1);
        Expect.due("no rows", x.beside(0, 1, 0), 37);
        Expect.due("row 0", x.beside(0, 1, 1), 987);
        Expect.due("row 1", x.beside(0, 1, 2), 55);
        Expect.due("rows 0 and 1", x.beside(0, 1, 3), 1005);
        Expect.due("a row that the other has not", x.beside(0, 1, 4), 37);
        Expect.due("all", x.beside(0, 1, 63), 1005);
        Expect.due("rows it has not itself", x.beside(1, 0, 60), -891);
        Expect.due("the other way", x.beside(1, 0, 63), -45 + 63);
        Expect.due("rows 64", x.beside(0, 1, 64), WITHOUT);
        Expect.due("rows -1", x.beside(0, 1, -1), WITHOUT);
        Expect.due("other 2", x.beside(0, 2, 1), WITHOUT);
        Expect.due("other -1", x.beside(0, -1, 1), WITHOUT);
        Expect.due("memo 2", x.beside(2, 0, 1), WITHOUT);
        Expect.due("memo -1", x.beside(-1, 0, 1), WITHOUT);
        Expect.due("itself is not another", x.beside(0, 0, 1), WITHOUT);
    }

    private static void steps() {
        TankBehind x = new TankBehind();
        Expect.due("months -1", x.step(-1, 0, 0, 0), -1);
        Expect.due("months 100", x.step(100, 0, 0, 0), -1);
        Expect.due("firm 4", x.step(1, 4, 0, 0), -1);
        Expect.due("firm -2", x.step(1, -2, 0, 0), -1);
        Expect.due("behind itself", x.step(1, 0, 1, 0), -1);
        Expect.due("coins -1", x.step(1, 0, 0, -1), -1);
        Expect.due("coins 10000", x.step(1, 0, 0, 10000), -1);
        Expect.due("steps", x.count(9), 0);
        for (int i = 0; i < 24; i++) {
            Expect.due("behind -1", x.step(1, 0, -1, 0), -1);
            Expect.due("behind a later one", x.step(1, 0, 1 << i, 0), -1);
            Expect.due("step", x.step(99, i % 5 - 1, (1 << i) - 1, 9999), i);
        }
        Expect.due("a step too many", x.step(1, 0, 0, 0), -1);
        Expect.due("steps", x.count(9), 24);
        Expect.due("the last ends", x.steps(23, 1), 24 * 99);
    }

    private static void stepsAsTold() {
        TankBehind x = new TankBehind();
        x.step(3, 0, 0, 1);
        x.step(5, 0, 0, 1);
        x.step(2, 0, 3, 1);
        x.step(0, 0, 1, 1);
        Expect.due("begin of the first", x.steps(0, 0), 0);
        Expect.due("end of the first", x.steps(0, 1), 3);
        Expect.due("begin behind two", x.steps(2, 0), 5);
        Expect.due("end behind two", x.steps(2, 1), 7);
        Expect.due("begin of 0 months", x.steps(3, 0), 3);
        Expect.due("end of 0 months", x.steps(3, 1), 3);
        Expect.due("step 4", x.steps(4, 0), -2);
        Expect.due("step -1", x.steps(-1, 0), -2);
        Expect.due("what 3", x.steps(0, 3), -2);
        Expect.due("what -1", x.steps(0, -1), -2);
    }

    private static void slack() {
        TankBehind x = new TankBehind();
        x.step(3, 0, 0, 1);
        Expect.due("of the last itself", x.steps(0, 2), 0);
        x.step(5, 0, 0, 1);
        Expect.due("not ahead of the last", x.steps(0, 2), -1);
        x.step(2, 0, 1, 1);
        x.step(1, 0, 6, 1);
        Expect.due("on the longest way", x.steps(1, 2), 0);
        Expect.due("as long", x.steps(2, 2), 0);
        Expect.due("as long, ahead of it", x.steps(0, 2), 0);
        x.step(9, 0, 2, 1);
        x.step(1, 0, 24, 1);
        Expect.due("beside a longer way", x.steps(3, 2), 8);
        Expect.due("ahead of that", x.steps(0, 2), 8);
        Expect.due("ahead of both", x.steps(1, 2), 0);
    }

    /** The end of the last of some steps, step k taking so many months more. */
    private static int lastEnd(int[] months, int[] behind, int count, int k, int more) {
        int[] ends = new int[count];
        for (int i = 0; i < count; i++) {
            int begin = 0;
            for (int j = 0; j < i; j++) {
                if ((behind[i] >> j & 1) == 1) {
                    begin = Math.max(begin, ends[j]);
                }
            }
            ends[i] = begin + months[i] + (i == k ? more : 0);
        }
        return ends[count - 1];
    }

    private static void slackByTrial() {
        int seed = 7;
        for (int n = 0; n < 300; n++) {
            TankBehind x = new TankBehind();
            int count = 1 + n % 9;
            int[] months = new int[count];
            int[] behind = new int[count];
            int[] firms = new int[count];
            for (int i = 0; i < count; i++) {
                seed = seed * 1103515245 + 12345;
                months[i] = (seed >>> 16) % 6;
                firms[i] = (seed >>> 20) % 5 - 1;
                behind[i] = (seed >>> 8) & (1 << i) - 1;
                Expect.due("step", x.step(months[i], firms[i], behind[i], 1), i);
            }
            int end = lastEnd(months, behind, count, -1, 0);
            for (int k = 0; k < count; k++) {
                int slack = 0;
                while (slack < 100 && lastEnd(months, behind, count, k, slack + 1) == end) {
                    slack++;
                }
                int want = k == count - 1 ? 0 : slack == 100 ? -1 : slack;
                Expect.due("plan " + n + ".steps(" + k + ", 2)", x.steps(k, 2), want);
            }
            for (int firm = 0; firm < 4; firm++) {
                int[] others = new int[count];
                for (int i = 0; i < count; i++) {
                    others[i] = firms[i] == firm ? 0 : months[i];
                }
                Expect.due("plan " + n + ".putOff(" + firm + ")", x.putOff(firm),
                    end - lastEnd(others, behind, count, -1, 0));
            }
        }
    }

    private static void putOff() {
        TankBehind x = new TankBehind();
        Expect.due("without steps", x.putOff(0), -1);
        x.step(3, 0, 0, 1);
        x.step(5, 1, 0, 1);
        x.step(2, -1, 3, 1);
        Expect.due("not the longest way", x.putOff(0), 0);
        Expect.due("the longest way", x.putOff(1), 2);
        Expect.due("another firm", x.putOff(3), 0);
        Expect.due("firm -1", x.putOff(-1), -1);
        Expect.due("firm 4", x.putOff(4), -1);
        x.step(4, 1, 4, 1);
        Expect.due("two steps of it", x.putOff(1), 6);
    }

    private static void changes() {
        TankBehind x = new TankBehind();
        Expect.due("without steps", x.change(0, 0), -1);
        x.step(4, 0, 0, 7);
        x.step(3, 0, 1, 7);
        x.step(0, 0, 1, 7);
        Expect.due("begun in month 0", x.change(0, 0), 21);
        Expect.due("ahead of its end", x.change(0, 3), 21);
        Expect.due("in its end", x.change(0, 4), 63);
        Expect.due("not begun", x.change(1, 3), 7);
        Expect.due("in its begin", x.change(1, 4), 21);
        Expect.due("ended long ago", x.change(1, 599), 63);
        Expect.due("of 0 months, not begun", x.change(2, 3), 7);
        Expect.due("of 0 months, ended", x.change(2, 4), 63);
        Expect.due("step 3", x.change(3, 0), -1);
        Expect.due("step -1", x.change(-1, 0), -1);
        Expect.due("month 600", x.change(0, 600), -1);
        Expect.due("month -1", x.change(0, -1), -1);
    }

    private static void cheap() {
        TankBehind x = new TankBehind();
        Expect.due("without steps", x.cheap(0, 9), -2);
        x.step(4, 0, 0, 7);
        x.step(3, 0, 1, 7);
        x.step(3, 0, 1, 0);
        Expect.due("below once", x.cheap(1, 6), -1);
        Expect.due("once", x.cheap(1, 7), 3);
        Expect.due("below three times", x.cheap(1, 20), 3);
        Expect.due("three times", x.cheap(1, 21), 6);
        Expect.due("below nine times", x.cheap(1, 62), 6);
        Expect.due("nine times", x.cheap(1, 63), 599);
        Expect.due("never once", x.cheap(0, 20), -1);
        TankBehind y = new TankBehind();
        y.step(1, 0, 0, 7);
        y.step(1, 0, 1, 7);
        Expect.due("in month 0 alone", y.cheap(1, 7), 0);
        Expect.due("in month 0 alone", y.cheap(0, 21), 0);
        Expect.due("for nothing", x.cheap(2, 0), 599);
        Expect.due("all coins", x.cheap(1, Integer.MAX_VALUE), 599);
        Expect.due("coins -1", x.cheap(2, -1), -2);
        Expect.due("step 3", x.cheap(3, 0), -2);
        Expect.due("step -1", x.cheap(-1, 0), -2);
        TankBehind z = new TankBehind();
        Expect.due("0 months, no coins", z.step(0, -1, 0, 0), 0);
        Expect.due("99 months, all coins", z.step(99, 3, 1, 9999), 1);
        Expect.due("once", z.change(0, 0), 0);
        Expect.due("begun in month 0", z.change(1, 0), 29997);
        Expect.due("in the last month ahead of its end", z.change(1, 98), 29997);
        Expect.due("in its end", z.change(1, 99), 89991);
        Expect.due("below nine times", z.cheap(1, 89990), 98);
        Expect.due("nine times", z.cheap(1, 89991), 599);
        for (int i = 2; i < 8; i++) {
            z.step(99, 0, 1 << i - 1, 10);
        }
        Expect.due("begins in 594", z.steps(7, 0), 594);
        Expect.due("not begun in 593", z.change(7, 593), 10);
        Expect.due("begun in 594", z.change(7, 594), 30);
        Expect.due("not ended in 599", z.change(7, 599), 30);
        Expect.due("thrice up to the last month", z.cheap(7, 30), 599);
        Expect.due("once up to 593", z.cheap(7, 29), 593);
        z.step(99, 0, 128, 10);
        Expect.due("never begun in a month", z.cheap(8, 10), 599);
        Expect.due("below once", z.cheap(8, 9), -1);
        for (int n : new int[] {-1, 9, 24, Integer.MIN_VALUE, Integer.MAX_VALUE}) {
            Expect.due("steps(" + n + ", 0)", z.steps(n, 0), -2);
            Expect.due("steps(" + n + ", 2)", z.steps(n, 2), -2);
            Expect.due("steps(0, " + n + ")", z.steps(0, n), -2);
            Expect.due("putOff(" + n + ")", z.putOff(n), -1);
            Expect.due("change(" + n + ", 0)", z.change(n, 0), -1);
            Expect.due("cheap(" + n + ", 0)", z.cheap(n, 0), -2);
        }
        for (int n : new int[] {-1, 600, Integer.MIN_VALUE, Integer.MAX_VALUE}) {
            Expect.due("change(0, " + n + ")", z.change(0, n), -1);
        }
        Expect.due("coins below all", z.cheap(0, Integer.MIN_VALUE), -2);
    }

    private static void cheapByTrial() {
        TankBehind x = new TankBehind();
        for (int i = 0; i < 24; i++) {
            x.step(i % 3 == 0 ? 0 : 60, 0, i == 0 ? 0 : 1 << i - 1, 5 + i);
        }
        for (int step = 0; step < 24; step++) {
            for (int coins = 0; coins < 300; coins += 7) {
                int last = -1;
                for (int month = 0; month < 600; month++) {
                    last = x.change(step, month) <= coins ? month : last;
                }
                Expect.due("cheap(" + step + ", " + coins + ")", x.cheap(step, coins), last);
            }
        }
    }
}
