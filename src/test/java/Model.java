import java.math.BigInteger;
import java.util.ArrayList;
import java.util.HashMap;
import java.util.HashSet;
import java.util.List;
import java.util.Map;
import java.util.Set;

/**
 * The document told once more in its plainest form, beside the class: it keeps what was told as it was told,
 * and works every answer out anew. Its methods bear the names of the face.
 */
final class Model {
    private static final int NONE = -1;
    private static final long NO_SUM = -9000000000000000000L;

    private int now;
    private final List<Integer> firmOf = new ArrayList<>();
    private final int[] factors = {100, 100, 100};
    private final List<int[]> kinds = new ArrayList<>();
    private final List<int[]> parts = new ArrayList<>();
    private final List<int[]> fits = new ArrayList<>();
    private final List<int[]> cars = new ArrayList<>();
    private final List<int[]> sales = new ArrayList<>();
    private final StringBuilder tape = new StringBuilder();
    private final List<String> rules = new ArrayList<>();
    private final List<Integer> binds = new ArrayList<>();
    private final List<int[]> tests = new ArrayList<>();
    private final List<int[]> reads = new ArrayList<>();
    private final List<int[]> crashes = new ArrayList<>();
    private final List<List<long[]>> memos = new ArrayList<>();
    private final List<int[]> steps = new ArrayList<>();
    private final List<int[]> calls = new ArrayList<>();
    private final Set<Integer> reached = new HashSet<>();
    private final List<int[]> mends = new ArrayList<>();
    private final Set<Integer> moved = new HashSet<>();
    private final List<int[]> savers = new ArrayList<>();
    private final Map<Integer, Integer> overlaps = new HashMap<>();
    private int bestSet = NONE;
    private int bestCoins = NONE;

    private static boolean in(int n, int least, int most) {
        return least <= n && n <= most;
    }

    private static boolean is(int n, List<?> list) {
        return in(n, 0, list.size() - 1);
    }

    private static boolean isMonth(int n) {
        return in(n, 0, 599);
    }

    private static boolean isSort(int n) {
        return in(n, 0, 2);
    }

    private static <T> int add(List<T> list, int most, boolean asTold, T one) {
        if (!asTold || list.size() >= most) {
            return NONE;
        }
        list.add(one);
        return list.size() - 1;
    }

    // I

    boolean clock(int month) {
        boolean told = isMonth(month) && month >= now;
        now = told ? month : now;
        return told;
    }

    int person(int firm) {
        return add(firmOf, 60, in(firm, -1, 3), firm);
    }

    int factor(int sort, int n) {
        if (!isSort(sort) || !in(n, 1, 999)) {
            return NONE;
        }
        int before = factors[sort];
        factors[sort] = n;
        return before;
    }

    int kind(int firm, int a, int b, int c) {
        boolean told = in(firm, 0, 3) && in(a, 0, 99999) && in(b, 0, 99999) && in(c, 0, 99999);
        return add(kinds, 8, told, new int[] {firm, a, b, c});
    }

    int part(int coins, int a, int b, int c) {
        boolean told = in(coins, 0, 9999) && in(a, 0, 9999) && in(b, 0, 9999) && in(c, 0, 9999);
        return add(parts, 12, told, new int[] {coins, a, b, c});
    }

    boolean fit(int kind, int part, int month) {
        if (!is(kind, kinds) || !is(part, parts) || !isMonth(month)) {
            return false;
        }
        if (fitted(kind, month).contains(part)) {
            return false;
        }
        fits.add(new int[] {kind, part, month});
        return true;
    }

    private Set<Integer> fitted(int kind, int made) {
        Set<Integer> has = new HashSet<>();
        for (int[] fit : fits) {
            if (fit[0] == kind && fit[2] <= made) {
                has.add(fit[1]);
            }
        }
        return has;
    }

    private Set<Integer> has(int car, int month) {
        Set<Integer> has = fitted(cars.get(car)[0], cars.get(car)[1]);
        for (int[] mend : mends) {
            if (mend[1] == car && mend[2] <= month) {
                has.add(calls.get(mend[0])[3]);
            }
        }
        return has;
    }

    int car(int kind, int made, int owner) {
        boolean told = is(kind, kinds) && isMonth(made) && made <= now && is(owner, firmOf);
        return add(cars, 300, told, new int[] {kind, made, owner, now});
    }

    private int[] lastSale(int car) {
        int[] last = {car, cars.get(car)[2], cars.get(car)[1], cars.get(car)[3]};
        for (int[] sale : sales) {
            last = sale[0] == car ? sale : last;
        }
        return last;
    }

    boolean sell(int car, int to, int month) {
        if (!is(car, cars) || !is(to, firmOf) || !isMonth(month)) {
            return false;
        }
        int[] last = lastSale(car);
        boolean told = to != last[1] && month >= last[2] && month <= now;
        return add(sales, 400, told, new int[] {car, to, month, now}) != NONE;
    }

    int owner(int car, int month, int known) {
        if (!is(car, cars) || !isMonth(month) || !isMonth(known)) {
            return NONE;
        }
        if (month < cars.get(car)[1] || known < cars.get(car)[3]) {
            return NONE;
        }
        int owner = cars.get(car)[2];
        for (int[] sale : sales) {
            if (sale[0] == car && sale[3] <= known && sale[2] <= month) {
                owner = sale[1];
            }
        }
        return owner;
    }

    private boolean wrecked(int car) {
        return crashes.stream().anyMatch(crash -> crash[0] == car && crash[6] == 1);
    }

    int cars(int k, int what) {
        if (!is(k, cars) || !in(what, 0, 3)) {
            return NONE;
        }
        if (what < 2) {
            return cars.get(k)[what];
        }
        if (what == 2) {
            return wrecked(k) ? 1 : 0;
        }
        int bits = 0;
        for (int part : has(k, now)) {
            bits += 1 << part;
        }
        return bits;
    }

    int force(int sort, int speed) {
        return isSort(sort) && in(speed, 0, 200) ? (int) ((long) speed * speed * factors[sort] / 100) : NONE;
    }

    private boolean burn(int kind, Set<Integer> has, int sort, int speed) {
        int bears = kinds.get(kind)[sort + 1];
        for (int part : has) {
            bears += parts.get(part)[sort + 1];
        }
        return force(sort, speed) > bears;
    }

    private boolean burn(int car, int month, int sort, int speed, int part) {
        Set<Integer> has = has(car, month);
        if (part != NONE) {
            has.add(part);
        }
        return burn(cars.get(car)[0], has, sort, speed);
    }

    int burns(int car, int month, int sort, int speed, int part) {
        if (!is(car, cars) || !isMonth(month) || month < cars.get(car)[1] || force(sort, speed) == NONE) {
            return NONE;
        }
        if (part != NONE && !is(part, parts)) {
            return NONE;
        }
        return burn(car, month, sort, speed, part) ? 1 : 0;
    }

    // II

    int feed(int a, int b, int c, int d, int e) {
        if (tape.length() + 20 > 400) {
            return NONE;
        }
        for (int number : new int[] {a, b, c, d, e}) {
            for (int i = 3; i >= 0; i--) {
                tape.append((char) (number >>> 8 * i & 255));
            }
        }
        return tape.length();
    }

    int end(int n) {
        if (!in(n, 0, tape.length())) {
            return NONE;
        }
        tape.setLength(n);
        return n;
    }

    int rule(int month) {
        if (rules.size() == 10 || !isMonth(month) || month < now) {
            return NONE;
        }
        String text = tape.toString();
        tape.setLength(0);
        int fault = SecondReader.fault(text);
        if (fault != -1) {
            return -2 - fault;
        }
        rules.add(text);
        binds.add(month);
        return rules.size() - 1;
    }

    int inForce(int month) {
        int found = NONE;
        for (int rule = 0; isMonth(month) && rule < rules.size(); rule++) {
            if (binds.get(rule) <= month && (found == NONE || binds.get(rule) >= binds.get(found))) {
                found = rule;
            }
        }
        return found;
    }

    private Map<String, Long> words(int kind, int month, int made) {
        Map<String, Long> words = new HashMap<>();
        SecondReader.VALUES.forEach(word -> words.put(word, 0L));
        words.put("month", (long) month);
        words.put("kind", (long) kind);
        words.put("firm", (long) kinds.get(kind)[0]);
        words.put("made", (long) made);
        words.put("cars", cars.stream().filter(car -> car[0] == kind && car[1] <= month && car[3] <= month).count());
        for (int[] crash : crashes) {
            if (cars.get(crash[0])[0] == kind && crash[5] == 1 && crash[7] <= month) {
                words.merge("fires", 1L, Long::sum);
                words.merge("deaths", (long) crash[4], Long::sum);
            }
        }
        return words;
    }

    private Long told(int month, String thing, int sort, Map<String, Long> words) {
        int rule = inForce(month);
        return rule == NONE ? null : SecondReader.told(SecondReader.cut(rules.get(rule)), thing, sort, words);
    }

    int must(int kind, int sort, int made) {
        if (!is(kind, kinds) || !isSort(sort) || !isMonth(made)) {
            return -2;
        }
        Long speed = told(made, "crash", sort, words(kind, made, made));
        return speed == null ? -1 : speed < 0 ? 0 : speed > 200 ? 200 : speed.intValue();
    }

    int fails(int kind, int sort, int made) {
        int must = must(kind, sort, made);
        if (must < 0) {
            return must == -2 ? NONE : 0;
        }
        return burn(kind, fitted(kind, made), sort, must) ? 1 : 0;
    }

    int owed(int kind, int month) {
        if (!is(kind, kinds) || !isMonth(month)) {
            return NONE;
        }
        return told(month, "recall", 0, words(kind, month, 0)) == null ? 0 : 1;
    }

    // III

    int test(int kind, int sort, int speed, boolean burned) {
        boolean told = is(kind, kinds) && isSort(sort) && in(speed, 0, 200);
        return add(tests, 200, told, new int[] {kind, sort, speed, burned ? 1 : 0});
    }

    boolean reads(int test, int person) {
        boolean told = is(test, tests) && is(person, firmOf)
            && reads.stream().noneMatch(read -> read[0] == test && read[1] == person);
        return add(reads, 600, told, new int[] {test, person, now}) != NONE;
    }

    int knew(int person, int kind, int sort, int known, int what) {
        if (!is(person, firmOf) || !is(kind, kinds) || !isSort(sort) || !isMonth(known) || !in(what, 0, 1)) {
            return -2;
        }
        int found = -1;
        for (int[] read : reads) {
            int[] test = tests.get(read[0]);
            boolean counts = read[1] == person && read[2] <= known && test[0] == kind && test[1] == sort;
            if (counts && test[3] == 1 - what) {
                boolean better = what == 0 ? test[2] < found : test[2] > found;
                found = found == -1 || better ? test[2] : found;
            }
        }
        return found;
    }

    int knewFails(int person, int kind, int sort) {
        if (!is(person, firmOf) || !is(kind, kinds) || !isSort(sort)) {
            return -2;
        }
        for (int month = 0; month <= now; month++) {
            int least = knew(person, kind, sort, month, 0);
            if (least != -1 && least <= must(kind, sort, month)) {
                return month;
            }
        }
        return -1;
    }

    // IV

    int crash(int car, int month, int sort, int speed, int dead, boolean burned, boolean wrecked) {
        if (!is(car, cars) || wrecked(car) || !isMonth(month) || month > now || month < cars.get(car)[1]) {
            return NONE;
        }
        boolean told = force(sort, speed) != NONE && in(dead, 0, 9)
            && crashes.stream().noneMatch(crash -> crash[0] == car && crash[1] > month);
        return add(crashes, 200, told,
            new int[] {car, month, sort, speed, dead, burned ? 1 : 0, wrecked ? 1 : 0, now});
    }

    int odd(int crash) {
        if (!is(crash, crashes)) {
            return NONE;
        }
        int[] of = crashes.get(crash);
        return burns(of[0], of[1], of[2], of[3], NONE) == of[5] ? 0 : 1;
    }

    long expected(int kind, int known, int part) {
        if (!is(kind, kinds) || !isMonth(known) || !in(part, 0, 3)) {
            return NONE;
        }
        BigInteger above = BigInteger.ZERO;
        BigInteger below = BigInteger.ONE;
        long[] own = {0, 0};
        for (int stratum = 0; stratum < 9; stratum++) {
            long[] ours = inStratum(stratum, kind, true, known);
            long[] others = inStratum(stratum, kind, false, known);
            if (others[1] > 0) {
                BigInteger all = BigInteger.valueOf(others[1]);
                above = above.multiply(all).add(BigInteger.valueOf(ours[1] * others[0]).multiply(below));
                below = below.multiply(all);
                own[0] += ours[0];
                own[1] += ours[1];
            }
        }
        BigInteger shared = above.gcd(below);
        return part == 0 ? above.divide(shared).longValueExact()
            : part == 1 ? below.divide(shared).longValueExact() : own[part - 2];
    }

    /** Fires and crashes in a stratum, of a kind or of all others. */
    private long[] inStratum(int stratum, int kind, boolean own, int known) {
        long[] found = {0, 0};
        for (int[] crash : crashes) {
            int band = crash[3] < 50 ? 0 : crash[3] < 100 ? 1 : 2;
            boolean counts = crash[7] <= known && crash[2] == stratum / 3 && band == stratum % 3;
            if (counts && (cars.get(crash[0])[0] == kind) == own) {
                found[0] += crash[5];
                found[1]++;
            }
        }
        return found;
    }

    // V

    int memo(int person) {
        return add(memos, 20, is(person, firmOf), new ArrayList<>());
    }

    int row(int memo, boolean saved, int count, int coins) {
        boolean told = is(memo, memos) && in(count, 0, 999999) && in(coins, 0, 9999999);
        return told ? add(memos.get(memo), 6, true, new long[] {saved ? 1 : -1, count, coins}) : NONE;
    }

    private static long sum(List<long[]> rows) {
        return rows.stream().mapToLong(row -> row[0] * row[1] * row[2]).sum();
    }

    long memoSum(int memo) {
        return is(memo, memos) ? sum(memos.get(memo)) : NO_SUM;
    }

    long turnsAt(int memo, int row, int what) {
        if (!is(memo, memos) || !is(row, memos.get(memo)) || !in(what, 0, 1)) {
            return -2;
        }
        long own = memos.get(memo).get(row)[what + 1];
        // No sum of six rows is above 6 times 10 to the 13th, so what is not turned by this is turned by none.
        long each = Math.max(1, memos.get(memo).get(row)[2 - what]);
        long far = own + 100000000000000L / each;
        long above = turnBetween(memo, row, what, own, far);
        return above != NONE ? above : turnBetween(memo, row, what, own, 0);
    }

    private boolean turns(int memo, int row, int what, long number) {
        long[] changed = memos.get(memo).get(row).clone();
        changed[what + 1] = number;
        List<long[]> rows = new ArrayList<>(memos.get(memo));
        rows.set(row, changed);
        return sum(rows) > 0 != sum(memos.get(memo)) > 0;
    }

    /** The number nearest to own on the way to far that turns the sum, by halving the way. */
    private long turnBetween(int memo, int row, int what, long own, long far) {
        if (!turns(memo, row, what, far)) {
            return NONE;
        }
        long still = own;
        long turned = far;
        while (Math.abs(turned - still) > 1) {
            long middle = still + (turned - still) / 2;
            if (turns(memo, row, what, middle)) {
                turned = middle;
            } else {
                still = middle;
            }
        }
        return turned;
    }

    long beside(int memo, int other, int rows) {
        if (!is(memo, memos) || !is(other, memos) || memo == other || !in(rows, 0, 63)) {
            return NO_SUM;
        }
        List<long[]> changed = new ArrayList<>();
        for (int row = 0; row < memos.get(memo).size(); row++) {
            long[] own = memos.get(memo).get(row).clone();
            if ((rows & 1 << row) != 0 && is(row, memos.get(other))) {
                own[2] = memos.get(other).get(row)[2];
            }
            changed.add(own);
        }
        return sum(changed);
    }

    // VI

    int step(int months, int firm, int behind, int coins) {
        boolean told = in(months, 0, 99) && in(firm, -1, 3) && in(coins, 0, 9999) && behind >= 0;
        for (int bit = 0; bit < 31; bit++) {
            told &= (behind & 1 << bit) == 0 || bit < steps.size();
        }
        return add(steps, 24, told, new int[] {months, firm, behind, coins});
    }

    /** The ends of all steps, those of a firm (-2: of none) taking no months and one step taking some more. */
    private int[] ends(int firm, int longer, int more) {
        int[] ends = new int[steps.size()];
        for (int step = 0; step < ends.length; step++) {
            int[] of = steps.get(step);
            for (int ahead = 0; ahead < step; ahead++) {
                ends[step] = (of[2] & 1 << ahead) == 0 ? ends[step] : Math.max(ends[step], ends[ahead]);
            }
            ends[step] += (of[1] == firm ? 0 : of[0]) + (step == longer ? more : 0);
        }
        return ends;
    }

    int steps(int k, int what) {
        if (!is(k, steps) || !in(what, 0, 2)) {
            return -2;
        }
        int end = ends(-2, -1, 0)[k];
        return what == 0 ? end - steps.get(k)[0] : what == 1 ? end : slack(k);
    }

    private int slack(int step) {
        int last = steps.size() - 1;
        if (step == last) {
            return 0;
        }
        int end = ends(-2, -1, 0)[last];
        // All steps together take 2376 months at most, so more than those puts off whatever waits for it.
        for (int more = 1; more < 2400; more++) {
            if (ends(-2, step, more)[last] > end) {
                return more - 1;
            }
        }
        return -1;
    }

    int putOff(int firm) {
        if (!in(firm, 0, 3) || steps.isEmpty()) {
            return NONE;
        }
        int last = steps.size() - 1;
        return ends(-2, -1, 0)[last] - ends(firm, -1, 0)[last];
    }

    int change(int step, int month) {
        if (!is(step, steps) || !isMonth(month)) {
            return NONE;
        }
        int times = month < steps(step, 0) ? 1 : month < steps(step, 1) ? 3 : 9;
        return times * steps.get(step)[3];
    }

    int cheap(int step, int coins) {
        if (!is(step, steps) || coins < 0) {
            return -2;
        }
        int last = -1;
        for (int month = 0; month < 600; month++) {
            last = change(step, month) <= coins ? month : last;
        }
        return last;
    }

    // VII

    int call(int kind, int a, int b, int part) {
        boolean told = is(kind, kinds) && isMonth(a) && isMonth(b) && a <= b && is(part, parts);
        return add(calls, 20, told, new int[] {kind, a, b, part});
    }

    private List<Integer> called(int call) {
        List<Integer> called = new ArrayList<>();
        int[] of = calls.get(call);
        for (int car = 0; car < cars.size(); car++) {
            if (cars.get(car)[0] == of[0] && in(cars.get(car)[1], of[1], of[2])) {
                called.add(car);
            }
        }
        return called;
    }

    private boolean mended(int call, int car) {
        return mends.stream().anyMatch(mend -> mend[0] == call && mend[1] == car);
    }

    private List<Integer> stay(int call) {
        List<Integer> stay = called(call);
        stay.removeIf(car -> mended(call, car) || wrecked(car));
        return stay;
    }

    int letters(int call) {
        if (!is(call, calls)) {
            return NONE;
        }
        List<Integer> sent = stay(call);
        sent.removeIf(car -> moved.contains(owner(car, now, now)));
        sent.forEach(car -> reached.add(call * 1000 + car));
        return sent.size();
    }

    int reached(int call, int car) {
        if (!is(call, calls) || !called(call).contains(car)) {
            return NONE;
        }
        return reached.contains(call * 1000 + car) ? 1 : 0;
    }

    boolean mend(int call, int car) {
        boolean told = reached(call, car) == 1 && !wrecked(car) && !mended(call, car);
        return told && mends.add(new int[] {call, car, now});
    }

    int left(int call, int k) {
        if (!is(call, calls)) {
            return NONE;
        }
        List<Integer> stay = stay(call);
        return k == NONE ? stay.size() : is(k, stay) ? stay.get(k) : NONE;
    }

    boolean moves(int person, boolean is) {
        return is(person, firmOf) && (is ? moved.add(person) : moved.remove(person));
    }

    // VIII

    long jury(int crash) {
        if (!is(crash, crashes) || crashes.get(crash)[5] == 0) {
            return NONE;
        }
        int[] of = crashes.get(crash);
        int kind = cars.get(of[0])[0];
        Map<String, Long> words = words(kind, now, cars.get(of[0])[1]);
        words.put("dead", (long) of[4]);
        words.put("speed", (long) of[3]);
        words.put("sort", (long) of[2]);
        for (int person = 0; person < firmOf.size(); person++) {
            int month = firmOf.get(person).equals(kinds.get(kind)[0]) ? knewFails(person, kind, of[2]) : -1;
            if (month != -1 && month <= of[1]) {
                words.put("knew", 1L);
            }
        }
        long least = Long.MAX_VALUE;
        for (int part = 0; part < parts.size(); part++) {
            if (burns(of[0], of[1], of[2], of[3], part) == 0) {
                least = Math.min(least, parts.get(part)[0]);
            }
        }
        words.put("part", least == Long.MAX_VALUE ? 0 : least);
        Long give = told(now, "give", 0, words);
        Long most = told(now, "most", 0, words);
        long given = give == null || give < 0 ? 0 : give;
        return most == null ? given : Math.min(given, most < 0 ? 0 : most);
    }

    int saver(int coins, int lives) {
        return add(savers, 9, in(coins, 0, 99999) && in(lives, 0, 999), new int[] {coins, lives});
    }

    int overlap(int a, int b, int lives) {
        if (!is(a, savers) || !is(b, savers) || a == b || !in(lives, 0, 999)) {
            return NONE;
        }
        Integer before = overlaps.put(Math.min(a, b) * 9 + Math.max(a, b), lives);
        return before == null ? 0 : before;
    }

    int best(int coins) {
        if (!in(coins, 0, 999999)) {
            return NONE;
        }
        long top = Long.MIN_VALUE;
        int best = 0;
        for (int set = 0; set < 1 << savers.size(); set++) {
            long cost = 0;
            long lives = 0;
            for (int a = 0; a < savers.size(); a++) {
                for (int b = a + 1; b < savers.size(); b++) {
                    boolean both = (set & 1 << a) != 0 && (set & 1 << b) != 0;
                    lives -= both ? overlaps.getOrDefault(a * 9 + b, 0) : 0;
                }
                cost += (set & 1 << a) != 0 ? savers.get(a)[0] : 0;
                lives += (set & 1 << a) != 0 ? savers.get(a)[1] : 0;
            }
            // The most lives, of these the least coins, of these the least number.
            long rank = (lives * 1000000 - cost) * 512 - set;
            if (cost <= coins && rank > top) {
                top = rank;
                best = (int) lives;
                bestSet = set;
                bestCoins = (int) cost;
            }
        }
        return best;
    }

    int bests(int what) {
        return what == 0 ? bestSet : what == 1 ? bestCoins : NONE;
    }

    int count(int what) {
        int[] counts = {now, firmOf.size(), kinds.size(), parts.size(), cars.size(), rules.size(), tests.size(),
            crashes.size(), memos.size(), steps.size(), calls.size(), tape.length()};
        return in(what, 0, 11) ? counts[what] : NONE;
    }
}
