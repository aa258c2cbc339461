import java.util.ArrayList;
import java.util.List;

/**
 * What is refused leaves all as it was: of two objects that were told the same, one is told besides what can't
 * be; afterwards both answer alike whatever is asked, and both take alike what is told then. For each call that
 * tells something there are the first numbers that are not taken, on both sides, and the full.
 */
public final class NothingHappensTest {
    private static final int LEAST = Integer.MIN_VALUE;
    private static final int MOST = Integer.MAX_VALUE;

    /** A call on an object, or several. */
    private interface Act {
        void on(TankBehind x);
    }

    /** A call that answers a number. */
    private interface Ask {
        long of(TankBehind x);
    }

    /** A call that answers whether it was taken. */
    private interface Told {
        boolean by(TankBehind x);
    }

    private NothingHappensTest() {
    }

    public static void main(String[] args) {
        clockPersonFactor();
        kindAndPart();
        fitAndCar();
        sell();
        tape();
        rule();
        testsAndReads();
        crash();
        memoAndRow();
        step();
        recalls();
        moves();
        saversAndBest();
        asking();
        Expect.finish("NothingHappensTest");
    }

    // Two kinds, two parts, three persons and cars, and some of all else; NOW is 6, and the tape holds a rule.
    private static void yard(TankBehind x) {
        x.person(1);
        x.person(0);
        x.person(-1);
        x.kind(1, 400, 900, 100);
        x.kind(0, 2500, 0, 300);
        x.part(11, 500, 0, 50);
        x.part(7, 0, 700, 0);
        x.factor(1, 120);
        x.clock(2);
        x.car(0, 1, 0);
        x.test(0, 0, 25, true);
        x.reads(0, 0);
        x.clock(4);
        x.fit(0, 0, 3);
        x.car(0, 3, 1);
        x.car(1, 2, 2);
        x.sell(0, 2, 3);
        x.test(1, 2, 18, false);
        x.reads(1, 1);
        Expect.tell(x, "crash 0 20+month; crash 1 35 if fires>0; recall if cars>1; give 100*dead+part; most 150", 4);
        x.crash(0, 3, 0, 30, 1, true, false);
        x.crash(2, 4, 2, 60, 2, true, true);
        x.clock(6);
        x.crash(1, 5, 0, 49, 0, false, false);
        x.memo(0);
        x.memo(1);
        x.row(0, true, 180, 200);
        x.row(0, false, 1000, 11);
        x.row(1, false, 5, 10);
        x.step(4, 0, 0, 10);
        x.step(6, -1, 0, 5);
        x.step(3, 1, 3, 2);
        x.call(0, 0, 3, 1);
        x.call(1, 2, 2, 0);
        x.moves(1, true);
        x.letters(0);
        x.mend(0, 0);
        x.saver(10, 5);
        x.saver(10, 7);
        x.saver(5, 5);
        x.overlap(0, 1, 4);
        x.best(20);
        Expect.write(x, "give 3");
    }

    private static void refused(String call, long due, Ask ask) {
        same(call, NothingHappensTest::yard, x -> Expect.due(call, ask.of(x), due));
    }

    private static void refused(String call, Told told) {
        same(call, NothingHappensTest::yard, x -> Expect.due(call, told.by(x), false));
    }

    private static void refusedWhenFull(String call, Act full, long due, Ask ask) {
        same(call, full, x -> Expect.due(call, ask.of(x), due));
    }

    private static void same(String call, Act before, Act refused) {
        TankBehind x = new TankBehind();
        TankBehind twin = new TankBehind();
        before.on(x);
        before.on(twin);
        refused.on(x);
        List<String> got = new Portrait(x).lines;
        List<String> want = new Portrait(twin).lines;
        for (int i = 0; i < want.size(); i++) {
            if (!got.get(i).equals(want.get(i))) {
                Expect.due(call + " changed " + want.get(i) + " to " + got.get(i), 1, 0);
                return;
            }
        }
    }

    /** What an object answers to all that can be asked, and then to what tells it something. */
    private static final class Portrait {
        final List<String> lines = new ArrayList<>();
        private final TankBehind x;
        private final int[] months = {0, 3, 5, 599};

        Portrait(TankBehind x) {
            this.x = x;
            for (int what = 0; what < 12; what++) {
                note("count(" + what + ")", x.count(what));
            }
            carsAndKinds();
            testsAndCrashes();
            memosAndSteps();
            recallsAndSavers();
            tell();
        }

        private void note(String call, long answer) {
            lines.add(call + " = " + answer);
        }

        private void carsAndKinds() {
            for (int sort = 0; sort < 3; sort++) {
                note("force " + sort, x.force(sort, 100));
            }
            for (int month : months) {
                note("inForce " + month, x.inForce(month));
            }
            for (int car = 0; car < 3; car++) {
                note("parts " + car, x.cars(car, 3));
                note("kind " + car, x.cars(car, 0) * 1000 + x.cars(car, 1) * 10 + x.cars(car, 2));
                for (int month : months) {
                    note("owner " + car + " in " + month, x.owner(car, month, 6));
                    note("owner " + car + " known in " + month, x.owner(car, 6, month));
                }
                note("burns " + car, x.burns(car, 6, 0, 25, -1) * 10 + x.burns(car, 4, 1, 32, -1));
            }
            for (int kind = 0; kind < 2; kind++) {
                for (int sort = 0; sort < 3; sort++) {
                    note("must " + kind + " " + sort, x.must(kind, sort, 5));
                    note("fails " + kind + " " + sort, x.fails(kind, sort, 5));
                    note("knewFails " + kind + " " + sort, x.knewFails(0, kind, sort));
                }
                note("owed " + kind, x.owed(kind, 5));
            }
        }

        private void testsAndCrashes() {
            for (int person = 0; person < 2; person++) {
                for (int month : months) {
                    note("knew " + person + " in " + month, x.knew(person, 0, 0, month, 0));
                    note("knew not " + person + " in " + month, x.knew(person, 1, 2, month, 1));
                }
            }
            for (int crash = 0; crash < 4; crash++) {
                note("odd " + crash, x.odd(crash));
                note("jury " + crash, x.jury(crash));
            }
            for (int part = 0; part < 4; part++) {
                note("expected " + part, x.expected(0, 6, part));
                note("expected of the other " + part, x.expected(1, 6, part));
            }
        }

        private void memosAndSteps() {
            for (int memo = 0; memo < 2; memo++) {
                note("memoSum " + memo, x.memoSum(memo));
                note("turnsAt " + memo, x.turnsAt(memo, 0, 0));
                note("turnsAt, coins " + memo, x.turnsAt(memo, 1, 1));
                note("beside " + memo, x.beside(memo, 1 - memo, 63));
            }
            for (int step = 0; step < 4; step++) {
                note("begin and end " + step, x.steps(step, 0) * 1000 + x.steps(step, 1));
                note("slack " + step, x.steps(step, 2));
                note("change " + step, x.change(step, 4));
                note("putOff " + step, x.putOff(step));
            }
        }

        private void recallsAndSavers() {
            for (int call = 0; call < 2; call++) {
                for (int car = 0; car < 3; car++) {
                    note("reached " + call + " " + car, x.reached(call, car));
                }
                note("left " + call, x.left(call, -1));
                note("the first left " + call, x.left(call, 0));
            }
            note("bests", x.bests(0) * 1000000L + x.bests(1));
        }

        /** What was told shows in what is answered to more of it; this comes last, for it changes the object. */
        private void tell() {
            for (int coins = 0; coins < 30; coins += 5) {
                note("best " + coins, x.best(coins) * 1000 + x.bests(0));
            }
            note("overlap", x.overlap(0, 1, 0) + x.overlap(0, 2, 0) * 1000 + x.overlap(1, 2, 0) * 1000000);
            for (int call = 0; call < 2; call++) {
                note("letters " + call, x.letters(call));
                for (int car = 0; car < 3; car++) {
                    note("mend " + call + " " + car, x.mend(call, car) ? 1 : 0);
                }
            }
            for (int person = 0; person < 3; person++) {
                note("moves " + person, x.moves(person, true) ? 1 : 0);
                for (int test = 0; test < 2; test++) {
                    note("reads " + test + " by " + person, x.reads(test, person) ? 1 : 0);
                }
            }
            for (int part = 0; part < 2; part++) {
                note("fit " + part, (x.fit(0, part, 3) ? 1 : 0) + (x.fit(1, part, 0) ? 2 : 0));
            }
            for (int car = 0; car < 3; car++) {
                note("crash " + car, x.crash(car, 4, 0, 0, 0, false, false));
                note("sell " + car, (x.sell(car, 0, 2) ? 1 : 0) + (x.sell(car, 1, 4) ? 2 : 0));
            }
            note("end", x.end(x.count(11)));
            note("rule", x.rule(599));
            note("feed", x.feed(1, 2, 3, 4, 5));
            note("numbers", x.person(0) + x.kind(0, 0, 0, 0) * 100 + x.part(0, 0, 0, 0) * 10000);
            note("test and crash", x.test(0, 0, 0, true) * 1000 + x.crash(1, 6, 0, 0, 0, true, true));
            note("memo and rows", x.memo(0) * 100 + x.row(0, true, 1, 1) * 10 + x.row(1, true, 1, 1));
            note("step, call, saver", x.step(0, 0, 0, 0) * 10000 + x.call(0, 0, 0, 0) * 100 + x.saver(0, 0));
            note("car", x.car(0, 0, 0));
            note("clock", (x.clock(5) ? 1 : 0) + (x.clock(6) ? 2 : 0));
        }
    }

    private static void clockPersonFactor() {
        for (int month : new int[] {5, 0, -1, 600, LEAST, MOST}) {
            refused("clock(" + month + ")", x -> x.clock(month));
        }
        for (int firm : new int[] {-2, 4, LEAST, MOST}) {
            refused("person(" + firm + ")", -1, x -> x.person(firm));
        }
        refusedWhenFull("a 61st person", x -> {
            yard(x);
            for (int i = 3; i < 60; i++) {
                x.person(0);
            }
        }, -1, x -> x.person(0));
        for (int sort : new int[] {-1, 3, LEAST, MOST}) {
            refused("factor of sort " + sort, -1, x -> x.factor(sort, 50));
        }
        for (int n : new int[] {0, 1000, -1, LEAST, MOST}) {
            refused("factor of " + n, -1, x -> x.factor(1, n));
        }
    }

    private static void kindAndPart() {
        for (int firm : new int[] {-1, 4, -2, LEAST, MOST}) {
            refused("kind of firm " + firm, -1, x -> x.kind(firm, 1, 1, 1));
        }
        for (int n : new int[] {-1, 100000, LEAST, MOST}) {
            refused("kind, a " + n, -1, x -> x.kind(0, n, 1, 1));
            refused("kind, b " + n, -1, x -> x.kind(0, 1, n, 1));
            refused("kind, c " + n, -1, x -> x.kind(0, 1, 1, n));
        }
        for (int n : new int[] {-1, 10000, LEAST, MOST}) {
            refused("part, coins " + n, -1, x -> x.part(n, 1, 1, 1));
            refused("part, a " + n, -1, x -> x.part(1, n, 1, 1));
            refused("part, b " + n, -1, x -> x.part(1, 1, n, 1));
            refused("part, c " + n, -1, x -> x.part(1, 1, 1, n));
        }
        refusedWhenFull("a ninth kind", x -> {
            yard(x);
            for (int i = 2; i < 8; i++) {
                x.kind(0, 1, 1, 1);
            }
        }, -1, x -> x.kind(0, 9, 9, 9));
        refusedWhenFull("a 13th part", x -> {
            yard(x);
            for (int i = 2; i < 12; i++) {
                x.part(1, 1, 1, 1);
            }
        }, -1, x -> x.part(9, 9, 9, 9));
    }

    private static void fitAndCar() {
        for (int n : new int[] {-1, 2, LEAST, MOST}) {
            refused("fit of kind " + n, x -> x.fit(n, 1, 0));
            refused("fit of part " + n, x -> x.fit(0, n, 0));
            refused("car of kind " + n, -1, x -> x.car(n, 0, 0));
        }
        for (int month : new int[] {-1, 600, LEAST, MOST}) {
            refused("fit from " + month, x -> x.fit(0, 1, month));
        }
        for (int month : new int[] {3, 4, 599}) {
            refused("had already from " + month, x -> x.fit(0, 0, month));
        }
        for (int month : new int[] {-1, 7, 600, LEAST, MOST}) {
            refused("car made in " + month, -1, x -> x.car(0, month, 0));
        }
        for (int person : new int[] {-1, 3, LEAST, MOST}) {
            refused("car of " + person, -1, x -> x.car(0, 0, person));
        }
        refusedWhenFull("a 301st car", x -> {
            yard(x);
            for (int i = 3; i < 300; i++) {
                x.car(0, 0, 0);
            }
        }, -1, x -> x.car(0, 0, 0));
    }

    private static void sell() {
        for (int car : new int[] {-1, 3, 299, 300, LEAST, MOST}) {
            refused("sell car " + car, x -> x.sell(car, 1, 6));
        }
        for (int person : new int[] {-1, 3, 59, 60, LEAST, MOST}) {
            refused("sell to " + person, x -> x.sell(0, person, 6));
        }
        for (int month : new int[] {2, -1, 7, 600, LEAST, MOST}) {
            refused("sell in " + month, x -> x.sell(0, 1, month));
        }
        refused("sell ahead of made", x -> x.sell(1, 0, 2));
        refused("sell to its owner as told last", x -> x.sell(0, 2, 6));
        refused("sell to its first owner", x -> x.sell(1, 1, 6));
        refusedWhenFull("a 401st sale", x -> {
            x.person(0);
            x.person(0);
            x.kind(0, 0, 0, 0);
            x.car(0, 0, 0);
            for (int i = 0; i < 400; i++) {
                x.sell(0, 1 - i % 2, 0);
            }
        }, 0, x -> x.sell(0, 1, 0) ? 1 : 0);
    }

    private static void tape() {
        for (int length : new int[] {381, 390, 400}) {
            refusedWhenFull("feed behind " + length, x -> {
                yard(x);
                x.end(0);
                for (int i = 0; i < 20; i++) {
                    x.feed(0x20202020, 0x20202020, 0x20202020, 0x20202020, 0x20202020);
                }
                Expect.due("bytes", x.end(length), length);
            }, -1, x -> x.feed(0, 0, 0, 0, 0));
        }
        for (int n : new int[] {-1, 7, 400, 401, LEAST, MOST}) {
            refused("end(" + n + ")", -1, x -> x.end(n));
        }
    }

    private static void rule() {
        for (int month : new int[] {5, 0, -1, 600, LEAST, MOST}) {
            refused("rule(" + month + ")", -1, x -> x.rule(month));
        }
        for (String text : new String[] {"give 3", "give ?"}) {
            refusedWhenFull("an eleventh rule " + text, x -> {
                yard(x);
                x.end(0);
                for (int i = 1; i < 10; i++) {
                    Expect.tell(x, "give " + i, 6);
                }
                Expect.write(x, text);
            }, -1, x -> x.rule(6));
        }
        // A fault takes the tape, as the document says of NONE alone that nothing happens; all else stays.
        same("a fault", x -> {
            yard(x);
            x.end(0);
        }, x -> Expect.due("a fault", Expect.tell(x, "crash 0 1; give ?", 6), Expect.fault(16, 0)));
    }

    private static void testsAndReads() {
        for (int kind : new int[] {-1, 2, LEAST, MOST}) {
            refused("test of kind " + kind, -1, x -> x.test(kind, 0, 5, true));
        }
        for (int sort : new int[] {-1, 3, LEAST, MOST}) {
            refused("test of sort " + sort, -1, x -> x.test(0, sort, 5, true));
        }
        for (int speed : new int[] {-1, 201, LEAST, MOST}) {
            refused("test at " + speed, -1, x -> x.test(0, 0, speed, true));
        }
        refusedWhenFull("a 201st test", x -> {
            yard(x);
            for (int i = 2; i < 200; i++) {
                x.test(0, 0, 99, true);
            }
        }, -1, x -> x.test(0, 0, 1, true));
        for (int test : new int[] {-1, 2, 199, 200, LEAST, MOST}) {
            refused("reads test " + test, x -> x.reads(test, 0));
        }
        for (int person : new int[] {-1, 3, 64, LEAST, MOST}) {
            refused("read by " + person, x -> x.reads(0, person));
        }
        refused("read by that one", x -> x.reads(0, 0));
    }

    private static void crash() {
        for (int car : new int[] {-1, 3, 300, LEAST, MOST}) {
            refused("crash of car " + car, -1, x -> x.crash(car, 6, 0, 5, 1, true, true));
        }
        for (int month : new int[] {2, 4, -1, 7, 600, LEAST, MOST}) {
            refused("crash in " + month, -1, x -> x.crash(1, month, 0, 5, 1, true, true));
        }
        for (int sort : new int[] {-1, 3, LEAST, MOST}) {
            refused("crash of sort " + sort, -1, x -> x.crash(1, 6, sort, 5, 1, true, true));
        }
        for (int speed : new int[] {-1, 201, LEAST, MOST}) {
            refused("crash at " + speed, -1, x -> x.crash(1, 6, 0, speed, 1, true, true));
        }
        for (int dead : new int[] {-1, 10, LEAST, MOST}) {
            refused("crash with dead " + dead, -1, x -> x.crash(1, 6, 0, 5, dead, true, true));
        }
        refused("crash of a wreck", -1, x -> x.crash(2, 6, 0, 5, 1, true, false));
        refusedWhenFull("a 201st crash", x -> {
            yard(x);
            for (int i = 3; i < 200; i++) {
                x.crash(0, 3, 0, 1, 0, false, false);
            }
        }, -1, x -> x.crash(1, 6, 0, 5, 1, true, true));
    }

    private static void memoAndRow() {
        for (int person : new int[] {-1, 3, LEAST, MOST}) {
            refused("memo of " + person, -1, x -> x.memo(person));
        }
        refusedWhenFull("a 21st memo", x -> {
            yard(x);
            for (int i = 2; i < 20; i++) {
                x.memo(0);
            }
        }, -1, x -> x.memo(0));
        for (int memo : new int[] {-1, 2, 20, LEAST, MOST}) {
            refused("row of memo " + memo, -1, x -> x.row(memo, true, 1, 1));
        }
        for (int count : new int[] {-1, 1000000, LEAST, MOST}) {
            refused("row of count " + count, -1, x -> x.row(0, true, count, 1));
        }
        for (int coins : new int[] {-1, 10000000, LEAST, MOST}) {
            refused("row of coins " + coins, -1, x -> x.row(0, true, 1, coins));
        }
        refusedWhenFull("a seventh row", x -> {
            yard(x);
            for (int i = 2; i < 6; i++) {
                x.row(0, true, i, 1);
            }
        }, -1, x -> x.row(0, true, 9, 9));
    }

    private static void step() {
        for (int months : new int[] {-1, 100, LEAST, MOST}) {
            refused("step of months " + months, -1, x -> x.step(months, 0, 0, 1));
        }
        for (int firm : new int[] {-2, 4, LEAST, MOST}) {
            refused("step of firm " + firm, -1, x -> x.step(1, firm, 0, 1));
        }
        for (int behind : new int[] {-1, 8, 9, 16, 1 << 23, 1 << 24, 1 << 30, LEAST, MOST}) {
            refused("step behind " + behind, -1, x -> x.step(1, 0, behind, 1));
        }
        for (int coins : new int[] {-1, 10000, LEAST, MOST}) {
            refused("step of coins " + coins, -1, x -> x.step(1, 0, 0, coins));
        }
        refusedWhenFull("a 25th step", x -> {
            yard(x);
            for (int i = 3; i < 24; i++) {
                x.step(1, 0, 1 << i - 1, 1);
            }
        }, -1, x -> x.step(9, 0, 0, 0));
    }

    private static void recalls() {
        for (int n : new int[] {-1, 2, LEAST, MOST}) {
            refused("call of kind " + n, -1, x -> x.call(n, 0, 5, 0));
            refused("call for part " + n, -1, x -> x.call(0, 0, 5, n));
        }
        for (int month : new int[] {-1, 600, LEAST, MOST}) {
            refused("call from " + month, -1, x -> x.call(0, month, 599, 0));
            refused("call to " + month, -1, x -> x.call(0, 0, month, 0));
        }
        refused("call with a behind b", -1, x -> x.call(0, 4, 3, 0));
        refusedWhenFull("a 21st call", x -> {
            yard(x);
            for (int i = 2; i < 20; i++) {
                x.call(0, 0, 5, 0);
            }
        }, -1, x -> x.call(0, 0, 5, 0));
        for (int call : new int[] {-1, 2, 20, 32, LEAST, MOST}) {
            refused("letters of " + call, -1, x -> x.letters(call));
            refused("mend by " + call, x -> x.mend(call, 0));
        }
        for (int car : new int[] {-1, 3, 300, LEAST, MOST}) {
            refused("mend car " + car, x -> x.mend(0, car));
        }
        refused("mended by it", x -> x.mend(0, 0));
        refused("not reached, its owner moved", x -> x.mend(0, 1));
        refused("none of the call's", x -> x.mend(0, 2));
        refused("a wreck", x -> x.mend(1, 2));
    }

    private static void moves() {
        for (int person : new int[] {-1, 3, 60, LEAST, MOST}) {
            refused("moves " + person, x -> x.moves(person, true));
            refused("found " + person, x -> x.moves(person, false));
        }
        refused("moved already", x -> x.moves(1, true));
        refused("found already", x -> x.moves(0, false));
    }

    private static void saversAndBest() {
        for (int coins : new int[] {-1, 100000, LEAST, MOST}) {
            refused("saver of coins " + coins, -1, x -> x.saver(coins, 1));
        }
        for (int lives : new int[] {-1, 1000, LEAST, MOST}) {
            refused("saver of lives " + lives, -1, x -> x.saver(1, lives));
            refused("overlap of lives " + lives, -1, x -> x.overlap(0, 1, lives));
        }
        refusedWhenFull("a tenth saver", x -> {
            yard(x);
            for (int i = 3; i < 9; i++) {
                x.saver(i, i);
            }
        }, -1, x -> x.saver(0, 999));
        for (int saver : new int[] {-1, 3, 9, LEAST, MOST}) {
            refused("overlap of " + saver, -1, x -> x.overlap(saver, 1, 2));
            refused("overlap with " + saver, -1, x -> x.overlap(1, saver, 2));
        }
        for (int saver = 0; saver < 3; saver++) {
            int both = saver;
            refused("overlap of " + saver + " with itself", -1, x -> x.overlap(both, both, 2));
        }
        for (int coins : new int[] {-1, 1000000, LEAST, MOST}) {
            refused("best(" + coins + ")", -1, x -> x.best(coins));
        }
    }

    /** Asking tells nothing, whatever is answered. */
    private static void asking() {
        same("asking", NothingHappensTest::yard, x -> {
            for (int n = -2; n < 4; n++) {
                x.owner(n, n + 3, n + 4);
                x.cars(n, n);
                x.force(n, n);
                x.burns(n, 6, 0, 30, n);
                x.inForce(n);
                x.must(n, n, n);
                x.fails(n, n, n);
                x.owed(n, n);
                x.knew(n, 0, 0, n, 0);
                x.knewFails(n, n, 0);
                x.odd(n);
                x.expected(n, 6, n);
                x.memoSum(n);
                x.turnsAt(n, 0, n);
                x.beside(n, 1 - n, 63);
                x.steps(2, n);
                x.steps(n, 2);
                x.putOff(n);
                x.change(n, 4);
                x.cheap(n, 6);
                x.reached(0, n);
                x.left(n, n);
                x.jury(n);
                x.bests(n);
                x.count(n);
            }
        });
    }
}
