import java.util.Arrays;

/**
 * The cars, crashes, rules, memos and letters of ../shared/DOC.md. The public class looks at every
 * argument and knows the month that is NOW; the classes inside it keep one part of the document each
 * and are handed only what has been looked at.
 */
public final class TankBehind {

    public static final int NONE = -1;

    private static final int WITHOUT = -2;
    private static final long NO_SUM = -9000000000000000000L;
    private static final int MONTHS = 600;
    private static final int FIRMS = 4;
    private static final int SORTS = 3;
    private static final int FASTEST = 200;
    private static final int PEOPLE = 60;
    private static final int KINDS = 8;
    private static final int PARTS = 12;
    private static final int CARS = 300;
    private static final int SALES = 400;
    private static final int TAPE = 400;
    private static final int RULES = 10;
    private static final int CLAUSES = 12;
    private static final int TESTS = 200;
    private static final int READS = 600;
    private static final int CRASHES = 200;
    private static final int MEMOS = 20;
    private static final int ROWS = 6;
    private static final int STEPS = 24;
    private static final int CALLS = 20;
    private static final int SAVERS = 9;

    // The words of a rule, by their places in RuleReader.WORDS; those below WORD_CRASH have a value.
    private static final int WORD_MONTH = 0;
    private static final int WORD_KIND = 1;
    private static final int WORD_FIRM = 2;
    private static final int WORD_MADE = 3;
    private static final int WORD_CARS = 4;
    private static final int WORD_FIRES = 5;
    private static final int WORD_DEATHS = 6;
    private static final int WORD_DEAD = 7;
    private static final int WORD_SPEED = 8;
    private static final int WORD_SORT = 9;
    private static final int WORD_KNEW = 10;
    private static final int WORD_PART = 11;
    private static final int WORD_CRASH = 12;
    private static final int WORD_GIVE = 13;
    private static final int WORD_MOST = 14;
    private static final int WORD_RECALL = 15;
    private static final int WORD_IF = 16;
    private static final int WORD_OR = 17;
    private static final int WORD_AND = 18;
    private static final int WORD_NOT = 19;

    // A rule is kept with its values ahead of their signs: below CODE_WORDS a number stands for
    // itself, then come the words that have a value, then the signs.
    private static final int CODE_WORDS = 100000;
    private static final int CODE_ADD = 100100;
    private static final int CODE_TAKE = 100101;
    private static final int CODE_TIMES = 100102;
    private static final int CODE_BELOW = 100103;
    private static final int CODE_NOT_ABOVE = 100104;
    private static final int CODE_SAME = 100105;
    private static final int CODE_NOT_BELOW = 100106;
    private static final int CODE_ABOVE = 100107;
    private static final int CODE_OR = 100108;
    private static final int CODE_AND = 100109;
    private static final int CODE_NOT = 100110;

    // What is kept of a clause: its thing (a sort for crash, else the word), where its sum begins,
    // where its test begins (the sum ends there) and where that ends.
    private static final int CLAUSE_PLACES = 4;

    private final Makes makes = new Makes();
    private final Fleet fleet = new Fleet();
    private final RuleReader reader = new RuleReader();
    private final RuleBook book = new RuleBook();
    private final Tests tests = new Tests();
    private final Crashes crashes = new Crashes();
    private final Memos memos = new Memos();
    private final Plan plan = new Plan();
    private final Recalls recalls = new Recalls();
    private final Savers savers = new Savers();
    private final int[] carsBy = new int[MONTHS];
    private final int[] firesBy = new int[MONTHS];
    private final int[] deathsBy = new int[MONTHS];
    private final int[] leastBy = new int[MONTHS];
    private int now;

    public TankBehind() {
        now = 0;
    }

    public boolean clock(int month) {
        if (!isMonth(month) || month < now) {
            return false;
        }
        now = month;
        return true;
    }

    public int person(int firm) {
        return firm == NONE || isFirm(firm) ? fleet.addPerson(firm) : NONE;
    }

    public int factor(int sort, int n) {
        return isSort(sort) && isWithin(n, 1, 999) ? makes.setFactor(sort, n) : NONE;
    }

    public int kind(int firm, int a, int b, int c) {
        boolean told = isFirm(firm) && isWithin(a, 0, 99999) && isWithin(b, 0, 99999) && isWithin(c, 0, 99999);
        return told ? makes.addKind(firm, a, b, c) : NONE;
    }

    public int part(int coins, int a, int b, int c) {
        boolean told = isWithin(coins, 0, 9999)
            && isWithin(a, 0, 9999) && isWithin(b, 0, 9999) && isWithin(c, 0, 9999);
        return told ? makes.addPart(coins, a, b, c) : NONE;
    }

    public boolean fit(int kind, int part, int month) {
        return makes.hasKind(kind) && makes.hasPart(part) && isMonth(month) && makes.fitFrom(kind, part, month);
    }

    public int car(int kind, int made, int owner) {
        boolean told = makes.hasKind(kind) && isWithin(made, 0, now) && fleet.hasPerson(owner);
        return told ? fleet.addCar(kind, made, owner, now) : NONE;
    }

    public boolean sell(int car, int to, int month) {
        Car sold = fleet.carAt(car);
        if (sold == null || !fleet.hasPerson(to) || to == sold.owner || !isWithin(month, sold.sold, now)) {
            return false;
        }
        return fleet.addSale(car, to, month, now);
    }

    public int owner(int car, int month, int known) {
        Car asked = fleet.carAt(car);
        if (asked == null || !isMonth(month) || !isMonth(known) || month < asked.made || known < asked.told) {
            return NONE;
        }
        return fleet.ownerIn(car, month, known);
    }

    public int cars(int k, int what) {
        Car asked = fleet.carAt(k);
        if (asked == null) {
            return NONE;
        }
        switch (what) {
            case 0:
                return asked.kind;
            case 1:
                return asked.made;
            case 2:
                return asked.wrecked ? 1 : 0;
            case 3:
                return partsOf(asked, now);
            default:
                return NONE;
        }
    }

    public int force(int sort, int speed) {
        return isSort(sort) && isSpeed(speed) ? makes.forceAt(sort, speed) : NONE;
    }

    public int burns(int car, int month, int sort, int speed, int part) {
        Car asked = fleet.carAt(car);
        if (asked == null || !isMonth(month) || month < asked.made || !isSort(sort) || !isSpeed(speed)) {
            return NONE;
        }
        if (part != NONE && !makes.hasPart(part)) {
            return NONE;
        }
        int parts = partsOf(asked, month) | (part == NONE ? 0 : 1 << part);
        return makes.burnsWith(asked.kind, parts, sort, speed) ? 1 : 0;
    }

    public int feed(int a, int b, int c, int d, int e) {
        if (!reader.hasRoom(20)) {
            return NONE;
        }
        reader.putNumber(a);
        reader.putNumber(b);
        reader.putNumber(c);
        reader.putNumber(d);
        reader.putNumber(e);
        return reader.length;
    }

    public int end(int n) {
        return isWithin(n, 0, reader.length) ? reader.cutTo(n) : NONE;
    }

    public int rule(int month) {
        if (book.isFull() || !isWithin(month, now, MONTHS - 1)) {
            return NONE;
        }
        int fault = reader.readRule();
        reader.cutTo(0);
        return fault == NONE ? book.addRule(month, reader) : -2 - fault;
    }

    public int inForce(int month) {
        return isMonth(month) ? book.ruleIn(month) : NONE;
    }

    public int must(int kind, int sort, int made) {
        if (!makes.hasKind(kind) || !isSort(sort) || !isMonth(made)) {
            return WITHOUT;
        }
        tally(kind);
        return mustOf(kind, sort, made);
    }

    public int fails(int kind, int sort, int made) {
        int speed = must(kind, sort, made);
        if (speed == WITHOUT) {
            return NONE;
        }
        return speed != NONE && makes.burnsWith(kind, makes.partsFitted(kind, made), sort, speed) ? 1 : 0;
    }

    public int owed(int kind, int month) {
        if (!makes.hasKind(kind) || !isMonth(month)) {
            return NONE;
        }
        tally(kind);
        askOfKind(kind, month, 0);
        return book.firstTrue(book.ruleIn(month), WORD_RECALL) == NONE ? 0 : 1;
    }

    public int test(int kind, int sort, int speed, boolean burned) {
        boolean told = makes.hasKind(kind) && isSort(sort) && isSpeed(speed);
        return told ? tests.addTest(kind, sort, speed, burned) : NONE;
    }

    public boolean reads(int test, int person) {
        return tests.hasTest(test) && fleet.hasPerson(person) && tests.addReading(test, person, now);
    }

    public int knew(int person, int kind, int sort, int known, int what) {
        boolean told = fleet.hasPerson(person) && makes.hasKind(kind) && isSort(sort) && isMonth(known);
        if (!told || !isWithin(what, 0, 1)) {
            return WITHOUT;
        }
        if (what == 0) {
            return tests.leastBurned(person, kind, sort, known);
        }
        return tests.greatestUnburned(person, kind, sort, known);
    }

    public int knewFails(int person, int kind, int sort) {
        if (!fleet.hasPerson(person) || !makes.hasKind(kind) || !isSort(sort)) {
            return WITHOUT;
        }
        tally(kind);
        return firstKnewFails(1L << person, kind, sort);
    }

    public int crash(int car, int month, int sort, int speed, int dead, boolean burned, boolean wrecked) {
        Car hit = fleet.carAt(car);
        if (hit == null || hit.wrecked || !isWithin(month, hit.crashed, now)) {
            return NONE;
        }
        if (!isSort(sort) || !isSpeed(speed) || !isWithin(dead, 0, 9) || crashes.isFull()) {
            return NONE;
        }
        hit.crashed = month;
        hit.wrecked = wrecked;
        int number = crashes.addCrash(car, hit.kind, month, now);
        crashes.tellOf(number, sort, speed, dead, burned);
        return number;
    }

    public int odd(int crash) {
        if (!crashes.hasCrash(crash)) {
            return NONE;
        }
        Car hit = fleet.carAt(crashes.cars[crash]);
        if (hit == null) {
            return NONE;
        }
        int parts = partsOf(hit, crashes.months[crash]);
        boolean burns = makes.burnsWith(hit.kind, parts, crashes.sorts[crash], crashes.speeds[crash]);
        return burns == crashes.burned[crash] ? 0 : 1;
    }

    public long expected(int kind, int known, int part) {
        if (!makes.hasKind(kind) || !isMonth(known) || !isWithin(part, 0, 3)) {
            return NONE;
        }
        return crashes.besideOthers(kind, known, part);
    }

    public int memo(int person) {
        return fleet.hasPerson(person) ? memos.addMemo() : NONE;
    }

    public int row(int memo, boolean saved, int count, int coins) {
        boolean told = memos.hasMemo(memo) && isWithin(count, 0, 999999) && isWithin(coins, 0, 9999999);
        return told ? memos.addRow(memo, saved, count, coins) : NONE;
    }

    public long memoSum(int memo) {
        return memos.hasMemo(memo) ? memos.sumOf(memo) : NO_SUM;
    }

    public long turnsAt(int memo, int row, int what) {
        boolean told = memos.hasMemo(memo) && memos.hasRow(memo, row) && isWithin(what, 0, 1);
        return told ? memos.turnOf(memo, row, what == 0) : WITHOUT;
    }

    public long beside(int memo, int other, int rows) {
        boolean told = memos.hasMemo(memo) && memos.hasMemo(other) && memo != other && isWithin(rows, 0, 63);
        return told ? memos.sumWith(memo, other, rows) : NO_SUM;
    }

    public int step(int months, int firm, int behind, int coins) {
        boolean told = isWithin(months, 0, 99) && (firm == NONE || isFirm(firm))
            && plan.hasSteps(behind) && isWithin(coins, 0, 9999);
        return told ? plan.addStep(months, firm, behind, coins) : NONE;
    }

    public int steps(int k, int what) {
        if (!plan.hasStep(k)) {
            return WITHOUT;
        }
        switch (what) {
            case 0:
                return plan.begins[k];
            case 1:
                return plan.ends[k];
            case 2:
                return plan.slackOf(k);
            default:
                return WITHOUT;
        }
    }

    public int putOff(int firm) {
        return isFirm(firm) && plan.steps > 0 ? plan.delayBy(firm) : NONE;
    }

    public int change(int step, int month) {
        return plan.hasStep(step) && isMonth(month) ? plan.costOf(step, month) : NONE;
    }

    public int cheap(int step, int coins) {
        return plan.hasStep(step) && coins >= 0 ? plan.lastMonthFor(step, coins) : WITHOUT;
    }

    public int call(int kind, int a, int b, int part) {
        boolean told = makes.hasKind(kind) && isMonth(a) && isMonth(b) && a <= b && makes.hasPart(part);
        return told ? recalls.addCall(kind, a, b, part) : NONE;
    }

    public int letters(int call) {
        return recalls.hasCall(call) ? recalls.sendLetters(call, fleet) : NONE;
    }

    public int reached(int call, int car) {
        Car asked = fleet.carAt(car);
        if (!recalls.hasCall(call) || asked == null || !recalls.isCalled(call, asked)) {
            return NONE;
        }
        return asked.wasReachedBy(call) ? 1 : 0;
    }

    public boolean mend(int call, int car) {
        Car mended = fleet.carAt(car);
        if (!recalls.hasCall(call) || mended == null || !mended.wasReachedBy(call) || !mended.isLeftBy(call)) {
            return false;
        }
        mended.takePart(call, recalls.parts[call], now);
        return true;
    }

    public int left(int call, int k) {
        if (!recalls.hasCall(call)) {
            return NONE;
        }
        return k == NONE ? recalls.countLeft(call, fleet) : recalls.leftAt(call, k, fleet);
    }

    public boolean moves(int person, boolean is) {
        return fleet.hasPerson(person) && fleet.setMoved(person, is);
    }

    public long jury(int crash) {
        if (!crashes.hasCrash(crash) || !crashes.burned[crash]) {
            return NONE;
        }
        Car hit = fleet.carAt(crashes.cars[crash]);
        if (hit == null) {
            return NONE;
        }
        int rule = book.ruleIn(now);
        askOfCrash(crash, hit);
        int give = book.firstTrue(rule, WORD_GIVE);
        if (give == NONE) {
            return 0L;
        }
        long given = Math.max(0L, book.sumOf(rule, give));
        int most = book.firstTrue(rule, WORD_MOST);
        return most == NONE ? given : Math.min(given, Math.max(0L, book.sumOf(rule, most)));
    }

    public int saver(int coins, int lives) {
        return isWithin(coins, 0, 99999) && isWithin(lives, 0, 999) ? savers.addSaver(coins, lives) : NONE;
    }

    public int overlap(int a, int b, int lives) {
        boolean told = savers.hasSaver(a) && savers.hasSaver(b) && a != b && isWithin(lives, 0, 999);
        return told ? savers.setOverlap(a, b, lives) : NONE;
    }

    public int best(int coins) {
        return isWithin(coins, 0, 999999) ? savers.findBest(coins) : NONE;
    }

    public int bests(int what) {
        switch (what) {
            case 0:
                return savers.bestSet;
            case 1:
                return savers.bestCoins;
            default:
                return NONE;
        }
    }

    public int count(int what) {
        switch (what) {
            case 0:
                return now;
            case 1:
                return fleet.people;
            case 2:
                return makes.kinds;
            case 3:
                return makes.parts;
            case 4:
                return fleet.cars;
            case 5:
                return book.rules;
            case 6:
                return tests.tests;
            case 7:
                return crashes.crashes;
            case 8:
                return memos.memos;
            case 9:
                return plan.steps;
            case 10:
                return recalls.calls;
            case 11:
                return reader.length;
            default:
                return NONE;
        }
    }

    private static boolean isWithin(int n, int least, int most) {
        return n >= least && n <= most;
    }

    private static boolean isMonth(int n) {
        return isWithin(n, 0, MONTHS - 1);
    }

    private static boolean isFirm(int n) {
        return isWithin(n, 0, FIRMS - 1);
    }

    private static boolean isSort(int n) {
        return isWithin(n, 0, SORTS - 1);
    }

    private static boolean isSpeed(int n) {
        return isWithin(n, 0, FASTEST);
    }

    private int partsOf(Car car, int month) {
        return makes.partsFitted(car.kind, car.made) | car.partsMended(month);
    }

    // Rules are asked of many months in one call: what they ask of a kind is counted once for all.
    private void tally(int kind) {
        fleet.countCars(kind, carsBy);
        crashes.countFires(kind, firesBy, deathsBy);
    }

    /** Puts the words of a kind in a month; it needs the kind's tally. */
    private void askOfKind(int kind, int month, int made) {
        long[] words = book.words;
        Arrays.fill(words, 0L);
        words[WORD_MONTH] = month;
        words[WORD_KIND] = kind;
        words[WORD_FIRM] = makes.firms[kind];
        words[WORD_MADE] = made;
        words[WORD_CARS] = carsBy[month];
        words[WORD_FIRES] = firesBy[month];
        words[WORD_DEATHS] = deathsBy[month];
    }

    private void askOfCrash(int crash, Car hit) {
        int sort = crashes.sorts[crash];
        int speed = crashes.speeds[crash];
        tally(hit.kind);
        // This asks the rules itself, so it comes ahead of the words below.
        int known = firstKnewFails(fleet.peopleOf(makes.firms[hit.kind]), hit.kind, sort);
        askOfKind(hit.kind, now, hit.made);
        long[] words = book.words;
        words[WORD_DEAD] = crashes.dead[crash];
        words[WORD_SPEED] = speed;
        words[WORD_SORT] = sort;
        words[WORD_KNEW] = known != NONE && known <= crashes.months[crash] ? 1L : 0L;
        words[WORD_PART] = makes.leastCoins(hit.kind, partsOf(hit, crashes.months[crash]), sort, speed);
    }

    /** MUST for cars made in a month, or NONE; it needs the kind's tally. */
    private int mustOf(int kind, int sort, int made) {
        int rule = book.ruleIn(made);
        askOfKind(kind, made, made);
        int clause = book.firstTrue(rule, sort);
        if (clause == NONE) {
            return NONE;
        }
        return (int) Math.max(0L, Math.min((long) FASTEST, book.sumOf(rule, clause)));
    }

    /** The first month in which one of some persons (bits) knew that it fails, or NONE. */
    private int firstKnewFails(long readers, int kind, int sort) {
        tests.learn(readers, kind, sort, leastBy);
        for (int month = 0; month <= now; month++) {
            if (leastBy[month] <= FASTEST && leastBy[month] <= mustOf(kind, sort, month)) {
                return month;
            }
        }
        return NONE;
    }

    /** Kinds of cars and their parts, and what both bear (I). */
    private static final class Makes {
        final int[] factors = new int[SORTS];
        final int[] firms = new int[KINDS];
        final int[][] bears = new int[KINDS][SORTS];
        final int[] coins = new int[PARTS];
        final int[][] adds = new int[PARTS][SORTS];
        // MONTHS stands for never.
        final int[][] fitted = new int[KINDS][PARTS];
        int kinds;
        int parts;

        Makes() {
            Arrays.fill(factors, 100);
            for (int kind = 0; kind < KINDS; kind++) {
                Arrays.fill(fitted[kind], MONTHS);
            }
        }

        boolean hasKind(int kind) {
            return kind >= 0 && kind < kinds;
        }

        boolean hasPart(int part) {
            return part >= 0 && part < parts;
        }

        int setFactor(int sort, int n) {
            int before = factors[sort];
            factors[sort] = n;
            return before;
        }

        int addKind(int firm, int a, int b, int c) {
            if (kinds == KINDS) {
                return NONE;
            }
            firms[kinds] = firm;
            fill(bears[kinds], a, b, c);
            return kinds++;
        }

        int addPart(int price, int a, int b, int c) {
            if (parts == PARTS) {
                return NONE;
            }
            coins[parts] = price;
            fill(adds[parts], a, b, c);
            return parts++;
        }

        private static void fill(int[] bySort, int a, int b, int c) {
            bySort[0] = a;
            bySort[1] = b;
            bySort[2] = c;
        }

        boolean fitFrom(int kind, int part, int month) {
            if (fitted[kind][part] <= month) {
                return false;
            }
            fitted[kind][part] = month;
            return true;
        }

        int partsFitted(int kind, int made) {
            int bits = 0;
            for (int part = 0; part < parts; part++) {
                if (fitted[kind][part] <= made) {
                    bits |= 1 << part;
                }
            }
            return bits;
        }

        int forceAt(int sort, int speed) {
            return speed * speed * factors[sort] / 100;
        }

        boolean burnsWith(int kind, int partBits, int sort, int speed) {
            int borne = bears[kind][sort];
            for (int part = 0; part < parts; part++) {
                if ((partBits >> part & 1) == 1) {
                    borne += adds[part][sort];
                }
            }
            return forceAt(sort, speed) > borne;
        }

        /** The least coins of a part with which it would not have burned, or 0. */
        int leastCoins(int kind, int partBits, int sort, int speed) {
            int least = NONE;
            for (int part = 0; part < parts; part++) {
                boolean cheaper = least == NONE || coins[part] < least;
                if (cheaper && !burnsWith(kind, partBits | 1 << part, sort, speed)) {
                    least = coins[part];
                }
            }
            return least == NONE ? 0 : least;
        }
    }

    /** One car, as last told (I, IV, VII). */
    private static final class Car {
        final int kind;
        final int made;
        final int told;
        final int firstOwner;
        int owner;
        // The months that the next sale and the next crash must not be ahead of.
        int sold;
        int crashed;
        boolean wrecked;
        int reachedBits;
        int mendedBits;
        // From when on it has a part that it was mended with; MONTHS stands for never.
        final int[] partFrom = new int[PARTS];

        Car(int kind, int made, int owner, int told) {
            this.kind = kind;
            this.made = made;
            this.told = told;
            this.firstOwner = owner;
            this.owner = owner;
            this.sold = made;
            this.crashed = made;
            Arrays.fill(partFrom, MONTHS);
        }

        int partsMended(int month) {
            int bits = 0;
            for (int part = 0; part < PARTS; part++) {
                if (partFrom[part] <= month) {
                    bits |= 1 << part;
                }
            }
            return bits;
        }

        boolean wasReachedBy(int call) {
            return (reachedBits >> call & 1) == 1;
        }

        boolean isLeftBy(int call) {
            return !wrecked && (mendedBits >> call & 1) == 0;
        }

        void takePart(int call, int part, int month) {
            mendedBits |= 1 << call;
            partFrom[part] = Math.min(partFrom[part], month);
        }
    }

    /** Persons, cars and sales (I). */
    private static final class Fleet {
        final int[] employers = new int[PEOPLE];
        final boolean[] moved = new boolean[PEOPLE];
        int people;
        final Car[] list = new Car[CARS];
        int cars;
        final int[] saleCars = new int[SALES];
        final int[] buyers = new int[SALES];
        final int[] saleMonths = new int[SALES];
        final int[] saleTold = new int[SALES];
        int sales;

        boolean hasPerson(int person) {
            return person >= 0 && person < people;
        }

        int addPerson(int firm) {
            if (people == PEOPLE) {
                return NONE;
            }
            employers[people] = firm;
            return people++;
        }

        boolean setMoved(int person, boolean is) {
            if (moved[person] == is) {
                return false;
            }
            moved[person] = is;
            return true;
        }

        /** The persons of a firm, as bits. */
        long peopleOf(int firm) {
            long bits = 0L;
            for (int person = 0; person < people; person++) {
                if (employers[person] == firm) {
                    bits |= 1L << person;
                }
            }
            return bits;
        }

        Car carAt(int car) {
            return car >= 0 && car < cars ? list[car] : null;
        }

        int addCar(int kind, int made, int owner, int told) {
            if (cars == CARS) {
                return NONE;
            }
            list[cars] = new Car(kind, made, owner, told);
            return cars++;
        }

        boolean addSale(int car, int to, int month, int told) {
            Car sold = carAt(car);
            if (sold == null || sales == SALES) {
                return false;
            }
            saleCars[sales] = car;
            buyers[sales] = to;
            saleMonths[sales] = month;
            saleTold[sales] = told;
            sales++;
            sold.owner = to;
            sold.sold = month;
            return true;
        }

        int ownerIn(int car, int month, int known) {
            for (int sale = sales - 1; sale >= 0; sale--) {
                if (saleCars[sale] == car && saleTold[sale] <= known && saleMonths[sale] <= month) {
                    return buyers[sale];
                }
            }
            Car asked = carAt(car);
            return asked == null ? NONE : asked.firstOwner;
        }

        /** How many cars of a kind are known by each month. */
        void countCars(int kind, int[] byMonth) {
            Arrays.fill(byMonth, 0);
            for (int i = 0; i < cars; i++) {
                Car car = carAt(i);
                if (car != null && car.kind == kind) {
                    byMonth[car.told]++;
                }
            }
            addUp(byMonth);
        }
    }

    private static void addUp(int[] byMonth) {
        for (int month = 1; month < byMonth.length; month++) {
            byMonth[month] += byMonth[month - 1];
        }
    }

    /** The tape, and the rule that stands on it: read once, from its first byte on, to its first fault (II). */
    private static final class RuleReader {
        // Each word ends with its blank, the last one too.
        static final String WORDS =
            "month kind firm made cars fires deaths dead speed sort knew part crash give most recall if or and not ";
        static final int DEEPEST = 10;
        static final int MOST_COUNTED = 80;
        static final int MOST_DIGITS = 5;
        static final int CANT_STAND = 0;
        static final int BAD_NUMBER = 1;
        static final int TOO_DEEP = 2;
        static final int TOO_MANY = 3;
        static final int CLAUSE_TOO_MANY = 4;
        static final int TAPE_END = -1;

        final byte[] tape = new byte[TAPE];
        int length;
        int place;
        int wordEnd;
        // Every code comes from bytes of its own, so there are never more codes than bytes.
        final int[] codes = new int[TAPE];
        int codeCount;
        final int[] clauses = new int[CLAUSES * CLAUSE_PLACES];
        int clauseCount;
        int counted;
        int fault;

        boolean hasRoom(int bytes) {
            return length + bytes <= TAPE;
        }

        void putNumber(int number) {
            for (int shift = 24; shift >= 0 && length < TAPE; shift -= 8) {
                tape[length] = (byte) (number >> shift);
                length++;
            }
        }

        int cutTo(int n) {
            length = n;
            return n;
        }

        /** The fault of the tape, or NONE: then codes and clauses hold the rule. */
        int readRule() {
            place = 0;
            codeCount = 0;
            clauseCount = 0;
            counted = 0;
            fault = NONE;
            // The clause behind the last one allowed is refused by readClause, which ends this too.
            for (int n = 0; n <= CLAUSES; n++) {
                if (!readClause() || signHere() == TAPE_END || !takeSign(';')) {
                    break;
                }
            }
            return fault;
        }

        private boolean readClause() {
            int thing = wordHere();
            if (thing < WORD_CRASH || thing > WORD_RECALL) {
                return refuse(place, CANT_STAND);
            }
            if (clauseCount == CLAUSES) {
                return refuse(place, CLAUSE_TOO_MANY);
            }
            place = wordEnd;
            boolean recalls = thing == WORD_RECALL;
            if (thing == WORD_CRASH) {
                thing = numberHere(SORTS - 1);
                if (thing == NONE) {
                    return false;
                }
            }
            int sumFrom = codeCount;
            if (!recalls && !readSum(0)) {
                return false;
            }
            int testFrom = codeCount;
            if (wordHere() == WORD_IF) {
                place = wordEnd;
                if (!readTest(0)) {
                    return false;
                }
            } else if (recalls) {
                return refuse(place, CANT_STAND);
            }
            keepClause(thing, sumFrom, testFrom);
            return true;
        }

        private void keepClause(int thing, int sumFrom, int testFrom) {
            int at = clauseCount * CLAUSE_PLACES;
            if (at + CLAUSE_PLACES > clauses.length) {
                return;
            }
            clauses[at] = thing;
            clauses[at + 1] = sumFrom;
            clauses[at + 2] = testFrom;
            clauses[at + 3] = codeCount;
            clauseCount++;
        }

        private boolean readTest(int depth) {
            if (!readPart(depth)) {
                return false;
            }
            for (int n = 0; n < TAPE && wordHere() == WORD_OR; n++) {
                place = wordEnd;
                if (!readPart(depth)) {
                    return false;
                }
                putCode(CODE_OR);
            }
            return true;
        }

        private boolean readPart(int depth) {
            if (!readFact(depth)) {
                return false;
            }
            for (int n = 0; n < TAPE && wordHere() == WORD_AND; n++) {
                place = wordEnd;
                if (!readFact(depth)) {
                    return false;
                }
                putCode(CODE_AND);
            }
            return true;
        }

        private boolean readFact(int depth) {
            boolean denies = wordHere() == WORD_NOT;
            boolean opens = signHere() == '[';
            if (!denies && !opens) {
                return readComparison(depth);
            }
            if (depth == DEEPEST) {
                return refuse(place, TOO_DEEP);
            }
            if (opens) {
                place++;
                return readTest(depth + 1) && takeSign(']');
            }
            place = wordEnd;
            if (!readFact(depth + 1)) {
                return false;
            }
            putCode(CODE_NOT);
            return true;
        }

        private boolean readComparison(int depth) {
            if (!readSum(depth)) {
                return false;
            }
            int comparison = comparisonHere();
            if (comparison == NONE || !readSum(depth)) {
                return false;
            }
            putCode(comparison);
            return true;
        }

        /** Takes < <= = >= or > and answers its code; NONE, and a fault, if it is none or one too many. */
        private int comparisonHere() {
            int sign = signHere();
            if (sign != '<' && sign != '=' && sign != '>') {
                refuse(place, CANT_STAND);
                return NONE;
            }
            if (!countOne()) {
                return NONE;
            }
            place++;
            if (sign == '=') {
                return CODE_SAME;
            }
            // No blank may part the two bytes of <= and >=, so this looks at the very next byte.
            if (place < length && tape[place] == '=') {
                place++;
                return sign == '<' ? CODE_NOT_ABOVE : CODE_NOT_BELOW;
            }
            return sign == '<' ? CODE_BELOW : CODE_ABOVE;
        }

        private boolean readSum(int depth) {
            if (!readTerm(depth)) {
                return false;
            }
            for (int n = 0; n < TAPE; n++) {
                int sign = signHere();
                if (sign != '+' && sign != '-') {
                    break;
                }
                place++;
                if (!readTerm(depth)) {
                    return false;
                }
                putCode(sign == '+' ? CODE_ADD : CODE_TAKE);
            }
            return true;
        }

        private boolean readTerm(int depth) {
            if (!readValue(depth)) {
                return false;
            }
            for (int n = 0; n < TAPE && signHere() == '*'; n++) {
                place++;
                if (!readValue(depth)) {
                    return false;
                }
                putCode(CODE_TIMES);
            }
            return true;
        }

        private boolean readValue(int depth) {
            if (signHere() == '(') {
                if (depth == DEEPEST) {
                    return refuse(place, TOO_DEEP);
                }
                if (!countOne()) {
                    return false;
                }
                place++;
                return readSum(depth + 1) && takeSign(')');
            }
            int word = wordHere();
            if (word != NONE && word < WORD_CRASH) {
                return countOne() && takeWord(word);
            }
            int at = place;
            int number = numberHere(CODE_WORDS - 1);
            if (number == NONE) {
                return false;
            }
            if (counted == MOST_COUNTED) {
                return refuse(at, TOO_MANY);
            }
            counted++;
            putCode(number);
            return true;
        }

        private boolean takeWord(int word) {
            place = wordEnd;
            putCode(CODE_WORDS + word);
            return true;
        }

        private boolean countOne() {
            if (counted == MOST_COUNTED) {
                return refuse(place, TOO_MANY);
            }
            counted++;
            return true;
        }

        private boolean takeSign(char sign) {
            if (signHere() != sign) {
                return refuse(place, CANT_STAND);
            }
            place++;
            return true;
        }

        /** Takes a number up to most; NONE, and a fault, if there is none. */
        private int numberHere(int most) {
            int sign = signHere();
            int end = place;
            int number = 0;
            while (end < length && tape[end] >= '0' && tape[end] <= '9') {
                // Held small: a number of too many digits is refused anyway.
                number = Math.min(number * 10 + (tape[end] - '0'), CODE_WORDS);
                end++;
            }
            if (end == place) {
                refuse(place, CANT_STAND);
                return NONE;
            }
            if (end - place > MOST_DIGITS || number > most) {
                refuse(place, BAD_NUMBER);
                return NONE;
            }
            place = end;
            return number;
        }

        /** The byte behind the blanks, where place is then, or TAPE_END. */
        private int signHere() {
            while (place < length && tape[place] == ' ') {
                place++;
            }
            return place < length ? tape[place] & 255 : TAPE_END;
        }

        /** The word behind the blanks, NONE if no word of the language stands there; wordEnd is behind it. */
        private int wordHere() {
            signHere();
            wordEnd = place;
            while (wordEnd < length && tape[wordEnd] >= 'a' && tape[wordEnd] <= 'z') {
                wordEnd++;
            }
            int word = 0;
            int at = place;
            boolean same = true;
            for (int i = 0; i < WORDS.length(); i++) {
                char letter = WORDS.charAt(i);
                if (letter != ' ') {
                    same = same && at < wordEnd && tape[at] == letter;
                    at++;
                } else if (same && at == wordEnd) {
                    return word;
                } else {
                    word++;
                    at = place;
                    same = true;
                }
            }
            return NONE;
        }

        private void putCode(int code) {
            if (codeCount < codes.length) {
                codes[codeCount] = code;
                codeCount++;
            }
        }

        private boolean refuse(int at, int why) {
            fault = 1 + 8 * at + why;
            return false;
        }
    }

    /** The rules, and what they answer to the words put beside them (II). */
    private static final class RuleBook {
        static final int DEEPEST_STACK = 80;

        final int[] froms = new int[RULES];
        final int[][] codes = new int[RULES][];
        final int[][] clauses = new int[RULES][];
        int rules;
        final long[] words = new long[WORD_CRASH];
        // No rule has more values than this, and a value alone makes the stack longer.
        final long[] stack = new long[DEEPEST_STACK];

        boolean isFull() {
            return rules == RULES;
        }

        int addRule(int month, RuleReader read) {
            if (isFull()) {
                return NONE;
            }
            froms[rules] = month;
            codes[rules] = Arrays.copyOf(read.codes, read.codeCount);
            clauses[rules] = Arrays.copyOf(read.clauses, read.clauseCount * CLAUSE_PLACES);
            return rules++;
        }

        int ruleIn(int month) {
            int found = NONE;
            for (int rule = 0; rule < rules; rule++) {
                if (froms[rule] <= month && (found == NONE || froms[rule] >= froms[found])) {
                    found = rule;
                }
            }
            return found;
        }

        /** Where the first clause of a rule stands that tells a thing, or NONE; also without the rule. */
        int firstTrue(int rule, int thing) {
            if (rule < 0 || rule >= rules) {
                return NONE;
            }
            int[] kept = clauses[rule];
            for (int at = 0; at + CLAUSE_PLACES <= kept.length; at += CLAUSE_PLACES) {
                boolean always = kept[at + 2] == kept[at + 3];
                if (kept[at] == thing && (always || work(codes[rule], kept[at + 2], kept[at + 3]) != 0L)) {
                    return at;
                }
            }
            return NONE;
        }

        /** The sum of the clause that stands at a place of firstTrue. */
        long sumOf(int rule, int at) {
            return work(codes[rule], clauses[rule][at + 1], clauses[rule][at + 2]);
        }

        private long work(int[] code, int from, int to) {
            int top = 0;
            for (int i = from; i < to && i < code.length; i++) {
                int next = code[i];
                if (next < CODE_ADD) {
                    if (top < stack.length) {
                        stack[top] = valueOf(next);
                        top++;
                    }
                } else if (next == CODE_NOT) {
                    if (top > 0) {
                        stack[top - 1] = 1L - stack[top - 1];
                    }
                } else if (top > 1) {
                    top--;
                    stack[top - 1] = join(next, stack[top - 1], stack[top]);
                }
            }
            return top > 0 ? stack[0] : 0L;
        }

        private long valueOf(int code) {
            int word = code - CODE_WORDS;
            return word >= 0 && word < words.length ? words[word] : code;
        }

        private static long join(int sign, long a, long b) {
            switch (sign) {
                case CODE_ADD:
                    return a + b;
                case CODE_TAKE:
                    return a - b;
                case CODE_TIMES:
                    return a * b;
                case CODE_OR:
                    return a | b;
                case CODE_AND:
                    return a & b;
                case CODE_BELOW:
                    return a < b ? 1L : 0L;
                case CODE_NOT_ABOVE:
                    return a <= b ? 1L : 0L;
                case CODE_SAME:
                    return a == b ? 1L : 0L;
                case CODE_NOT_BELOW:
                    return a >= b ? 1L : 0L;
                default:
                    return a > b ? 1L : 0L;
            }
        }
    }

    /** Tests in the yard, and who had read them when (III). */
    private static final class Tests {
        final int[] kinds = new int[TESTS];
        final int[] sorts = new int[TESTS];
        final int[] speeds = new int[TESTS];
        final boolean[] burned = new boolean[TESTS];
        final long[] readers = new long[TESTS];
        int tests;
        final int[] readTests = new int[READS];
        final int[] readBy = new int[READS];
        final int[] readIn = new int[READS];
        int readings;

        boolean hasTest(int test) {
            return test >= 0 && test < tests;
        }

        int addTest(int kind, int sort, int speed, boolean burns) {
            if (tests == TESTS) {
                return NONE;
            }
            kinds[tests] = kind;
            sorts[tests] = sort;
            speeds[tests] = speed;
            burned[tests] = burns;
            return tests++;
        }

        boolean addReading(int test, int person, int month) {
            if (readings == READS || (readers[test] >> person & 1L) == 1L) {
                return false;
            }
            readers[test] |= 1L << person;
            readTests[readings] = test;
            readBy[readings] = person;
            readIn[readings] = month;
            readings++;
            return true;
        }

        private boolean isOf(int test, int kind, int sort) {
            return kinds[test] == kind && sorts[test] == sort;
        }

        int leastBurned(int person, int kind, int sort, int known) {
            int least = NONE;
            for (int i = 0; i < readings && readIn[i] <= known; i++) {
                int test = readTests[i];
                if (readBy[i] == person && isOf(test, kind, sort) && burned[test]) {
                    least = least == NONE ? speeds[test] : Math.min(least, speeds[test]);
                }
            }
            return least;
        }

        int greatestUnburned(int person, int kind, int sort, int known) {
            int greatest = NONE;
            for (int i = 0; i < readings && readIn[i] <= known; i++) {
                int test = readTests[i];
                if (readBy[i] == person && isOf(test, kind, sort) && !burned[test]) {
                    greatest = Math.max(greatest, speeds[test]);
                }
            }
            return greatest;
        }

        /** The least speed that some persons (bits) had read of as burning by each month; above FASTEST: none. */
        void learn(long people, int kind, int sort, int[] byMonth) {
            Arrays.fill(byMonth, FASTEST + 1);
            for (int i = 0; i < readings; i++) {
                int test = readTests[i];
                int month = readIn[i];
                if ((people >> readBy[i] & 1L) == 1L && isOf(test, kind, sort) && burned[test]) {
                    byMonth[month] = Math.min(byMonth[month], speeds[test]);
                }
            }
            for (int month = 1; month < byMonth.length; month++) {
                byMonth[month] = Math.min(byMonth[month], byMonth[month - 1]);
            }
        }
    }

    /** Crashes, and how the fires of kinds stand beside one another (IV). */
    private static final class Crashes {
        static final int SPEED_BANDS = 3;
        static final int STRATA = SORTS * SPEED_BANDS;

        final int[] cars = new int[CRASHES];
        final int[] kinds = new int[CRASHES];
        final int[] months = new int[CRASHES];
        final int[] told = new int[CRASHES];
        final int[] sorts = new int[CRASHES];
        final int[] speeds = new int[CRASHES];
        final int[] dead = new int[CRASHES];
        final boolean[] burned = new boolean[CRASHES];
        int crashes;
        final int[] ownCrashes = new int[STRATA];
        final int[] ownFires = new int[STRATA];
        final int[] otherCrashes = new int[STRATA];
        final int[] otherFires = new int[STRATA];

        boolean hasCrash(int crash) {
            return crash >= 0 && crash < crashes;
        }

        boolean isFull() {
            return crashes == CRASHES;
        }

        int addCrash(int car, int kind, int month, int toldIn) {
            if (isFull()) {
                return NONE;
            }
            cars[crashes] = car;
            kinds[crashes] = kind;
            months[crashes] = month;
            told[crashes] = toldIn;
            return crashes++;
        }

        void tellOf(int crash, int sort, int speed, int deaths, boolean burns) {
            if (!hasCrash(crash)) {
                return;
            }
            sorts[crash] = sort;
            speeds[crash] = speed;
            dead[crash] = deaths;
            burned[crash] = burns;
        }

        /** How many crashes of a kind that were seen to burn are known by each month, and their dead. */
        void countFires(int kind, int[] firesBy, int[] deathsBy) {
            Arrays.fill(firesBy, 0);
            Arrays.fill(deathsBy, 0);
            for (int crash = 0; crash < crashes; crash++) {
                if (kinds[crash] == kind && burned[crash]) {
                    firesBy[told[crash]]++;
                    deathsBy[told[crash]] += dead[crash];
                }
            }
            addUp(firesBy);
            addUp(deathsBy);
        }

        /** EXPECTED: 0 above the line, 1 below it, 2 SEEN, 3 the crashes that stand beside others. */
        long besideOthers(int kind, int known, int part) {
            sortIntoStrata(kind, known);
            long above = 0L;
            long below = 1L;
            long seen = 0L;
            long own = 0L;
            for (int stratum = 0; stratum < STRATA; stratum++) {
                long others = otherCrashes[stratum];
                if (others > 0L) {
                    above = above * others + (long) ownCrashes[stratum] * otherFires[stratum] * below;
                    below = below * others;
                    long shared = commonDivisor(above, below);
                    above /= shared;
                    below /= shared;
                    seen += ownFires[stratum];
                    own += ownCrashes[stratum];
                }
            }
            switch (part) {
                case 0:
                    return above;
                case 1:
                    return below;
                case 2:
                    return seen;
                default:
                    return own;
            }
        }

        private void sortIntoStrata(int kind, int known) {
            Arrays.fill(ownCrashes, 0);
            Arrays.fill(ownFires, 0);
            Arrays.fill(otherCrashes, 0);
            Arrays.fill(otherFires, 0);
            for (int crash = 0; crash < crashes; crash++) {
                if (told[crash] <= known) {
                    boolean own = kinds[crash] == kind;
                    int stratum = sorts[crash] * SPEED_BANDS + Math.min(speeds[crash] / 50, SPEED_BANDS - 1);
                    int[] all = own ? ownCrashes : otherCrashes;
                    int[] fires = own ? ownFires : otherFires;
                    all[stratum]++;
                    fires[stratum] += burned[crash] ? 1 : 0;
                }
            }
        }

        /** The greatest number that divides both, at least 1; b is above 0. */
        private static long commonDivisor(long a, long b) {
            long left = b;
            long right = a;
            // Two rounds at least halve it, so 200 are more than 64 bits can need.
            for (int n = 0; n < 200 && right > 0L; n++) {
                long rest = left % right;
                left = right;
                right = rest;
            }
            return Math.max(1L, left);
        }
    }

    /** Memos that put so much on a life (V). */
    private static final class Memos {
        int memos;
        final int[] rows = new int[MEMOS];
        final boolean[] saved = new boolean[MEMOS * ROWS];
        final int[] counts = new int[MEMOS * ROWS];
        final int[] coins = new int[MEMOS * ROWS];

        boolean hasMemo(int memo) {
            return memo >= 0 && memo < memos;
        }

        boolean hasRow(int memo, int row) {
            return row >= 0 && row < rows[memo];
        }

        int addMemo() {
            return memos == MEMOS ? NONE : memos++;
        }

        int addRow(int memo, boolean isSaved, int count, int price) {
            int row = rows[memo];
            if (row == ROWS) {
                return NONE;
            }
            int at = memo * ROWS + row;
            saved[at] = isSaved;
            counts[at] = count;
            coins[at] = price;
            rows[memo]++;
            return row;
        }

        long sumOf(int memo) {
            return sumWith(memo, memo, 0);
        }

        long sumWith(int memo, int other, int rowBits) {
            long sum = 0L;
            for (int row = 0; row < rows[memo]; row++) {
                int at = memo * ROWS + row;
                boolean taken = (rowBits >> row & 1) == 1 && hasRow(other, row);
                long product = (long) counts[at] * coins[taken ? other * ROWS + row : at];
                sum += saved[at] ? product : -product;
            }
            return sum;
        }

        /** The number of a row with which the sum is no more on its side, or NONE. */
        long turnOf(int memo, int row, boolean ofCount) {
            int at = memo * ROWS + row;
            long each = ofCount ? coins[at] : counts[at];
            if (each == 0L) {
                return NONE;
            }
            long sum = sumOf(memo);
            long product = (long) counts[at] * coins[at];
            if (saved[at]) {
                // The sum is above 0 just for numbers above this one.
                long lastNotAbove = Math.floorDiv(product - sum, each);
                return sum > 0L ? Math.max(NONE, lastNotAbove) : lastNotAbove + 1L;
            }
            // The sum is above 0 just for numbers below this one.
            long firstNotAbove = -Math.floorDiv(-(sum + product), each);
            return sum > 0L ? firstNotAbove : Math.max(NONE, firstNotAbove - 1L);
        }
    }

    /** Steps of the plan that put a standard off (VI). */
    private static final class Plan {
        final int[] months = new int[STEPS];
        final int[] firms = new int[STEPS];
        final int[] behind = new int[STEPS];
        final int[] coins = new int[STEPS];
        final int[] begins = new int[STEPS];
        final int[] ends = new int[STEPS];
        final int[] others = new int[STEPS];
        int steps;

        boolean hasStep(int step) {
            return step >= 0 && step < steps;
        }

        boolean hasSteps(int bits) {
            return bits >= 0 && bits >> steps == 0;
        }

        int addStep(int length, int firm, int behindBits, int price) {
            if (steps == STEPS) {
                return NONE;
            }
            months[steps] = length;
            firms[steps] = firm;
            behind[steps] = behindBits;
            coins[steps] = price;
            begins[steps] = beginOf(steps, ends);
            ends[steps] = begins[steps] + length;
            return steps++;
        }

        private int beginOf(int step, int[] endings) {
            int begin = 0;
            for (int before = 0; before < step; before++) {
                if (isBehind(step, before)) {
                    begin = Math.max(begin, endings[before]);
                }
            }
            return begin;
        }

        private boolean isBehind(int step, int before) {
            return (behind[step] >> before & 1) == 1;
        }

        int delayBy(int firm) {
            for (int step = 0; step < steps; step++) {
                others[step] = beginOf(step, others) + (firms[step] == firm ? 0 : months[step]);
            }
            return steps == 0 ? 0 : ends[steps - 1] - others[steps - 1];
        }

        /** How much longer a step could be; NONE if the last one told does not wait for it. */
        int slackOf(int asked) {
            int last = steps - 1;
            int[] latest = others;
            Arrays.fill(latest, NONE);
            if (last >= 0) {
                latest[last] = ends[last];
            }
            for (int step = last; step > asked; step--) {
                int begin = latest[step] - months[step];
                for (int before = 0; before < step && latest[step] != NONE; before++) {
                    if (isBehind(step, before)) {
                        latest[before] = latest[before] == NONE ? begin : Math.min(latest[before], begin);
                    }
                }
            }
            return latest[asked] == NONE ? NONE : latest[asked] - ends[asked];
        }

        int costOf(int step, int month) {
            if (month >= ends[step]) {
                return 9 * coins[step];
            }
            return month >= begins[step] ? 3 * coins[step] : coins[step];
        }

        int lastMonthFor(int step, int price) {
            for (int month = MONTHS - 1; month >= 0; month--) {
                if (costOf(step, month) <= price) {
                    return month;
                }
            }
            return NONE;
        }
    }

    /** Calls back to the shop, and their letters (VII). */
    private static final class Recalls {
        final int[] kinds = new int[CALLS];
        final int[] firsts = new int[CALLS];
        final int[] lasts = new int[CALLS];
        final int[] parts = new int[CALLS];
        int calls;

        boolean hasCall(int call) {
            return call >= 0 && call < calls;
        }

        int addCall(int kind, int first, int last, int part) {
            if (calls == CALLS) {
                return NONE;
            }
            kinds[calls] = kind;
            firsts[calls] = first;
            lasts[calls] = last;
            parts[calls] = part;
            return calls++;
        }

        boolean isCalled(int call, Car car) {
            return car.kind == kinds[call] && car.made >= firsts[call] && car.made <= lasts[call];
        }

        private boolean isLeft(int call, Car car) {
            return car != null && isCalled(call, car) && car.isLeftBy(call);
        }

        int sendLetters(int call, Fleet fleet) {
            int reached = 0;
            for (int i = 0; i < fleet.cars; i++) {
                Car car = fleet.carAt(i);
                if (isLeft(call, car) && !fleet.moved[car.owner]) {
                    car.reachedBits |= 1 << call;
                    reached++;
                }
            }
            return reached;
        }

        int countLeft(int call, Fleet fleet) {
            int found = 0;
            for (int i = 0; i < fleet.cars; i++) {
                if (isLeft(call, fleet.carAt(i))) {
                    found++;
                }
            }
            return found;
        }

        int leftAt(int call, int k, Fleet fleet) {
            int found = 0;
            for (int i = 0; i < fleet.cars; i++) {
                if (isLeft(call, fleet.carAt(i))) {
                    if (found == k) {
                        return i;
                    }
                    found++;
                }
            }
            return NONE;
        }
    }

    /** Rules that save most for their cost (VIII). */
    private static final class Savers {
        final int[] coins = new int[SAVERS];
        final int[] lives = new int[SAVERS];
        final int[][] overlaps = new int[SAVERS][SAVERS];
        int savers;
        int bestSet = NONE;
        int bestCoins = NONE;

        boolean hasSaver(int saver) {
            return saver >= 0 && saver < savers;
        }

        int addSaver(int price, int saved) {
            if (savers == SAVERS) {
                return NONE;
            }
            coins[savers] = price;
            lives[savers] = saved;
            return savers++;
        }

        int setOverlap(int a, int b, int shared) {
            int before = overlaps[a][b];
            overlaps[a][b] = shared;
            overlaps[b][a] = shared;
            return before;
        }

        int findBest(int most) {
            int bestLives = 0;
            bestSet = 0;
            bestCoins = 0;
            for (int set = 1; set < 1 << savers; set++) {
                int cost = coinsOf(set);
                int saved = cost <= most ? livesOf(set) : NONE;
                if (saved > bestLives || saved == bestLives && cost < bestCoins) {
                    bestLives = saved;
                    bestSet = set;
                    bestCoins = cost;
                }
            }
            return bestLives;
        }

        private int coinsOf(int set) {
            int sum = 0;
            for (int saver = 0; saver < savers; saver++) {
                sum += (set >> saver & 1) * coins[saver];
            }
            return sum;
        }

        private int livesOf(int set) {
            int sum = 0;
            for (int saver = 0; saver < savers; saver++) {
                if ((set >> saver & 1) == 1) {
                    sum += lives[saver];
                    for (int other = 0; other < saver; other++) {
                        sum -= (set >> other & 1) * overlaps[saver][other];
                    }
                }
            }
            return sum;
        }
    }
}
