/** Promises 21 to 27: tests, who read them, crashes and expected fires. */
public final class TestsAndCrashesTest {
    private TestsAndCrashesTest() {
    }

    public static void main(String[] args) {
        tests();
        readings();
        readingsInAll();
        knew();
        knewFails();
        knewFailsMonthByMonth();
        knewFailsAtTheEdges();
        crashes();
        crashesAtTheEdges();
        crashesOfACar();
        odd();
        oddWithMending();
        expected();
        expectedOfSpeeds();
        expectedInLowestTerms();
        Expect.finish("TestsAndCrashesTest");
    }

    private static void tests() {
        TankBehind x = new TankBehind();
        Expect.due("test without kind", x.test(0, 0, 5, true), -1);
        x.kind(0, 1, 1, 1);
        Expect.due("kind -1", x.test(-1, 0, 5, true), -1);
        Expect.due("kind 1", x.test(1, 0, 5, true), -1);
        Expect.due("sort 3", x.test(0, 3, 5, true), -1);
        Expect.due("sort -1", x.test(0, -1, 5, true), -1);
        Expect.due("speed 201", x.test(0, 0, 201, true), -1);
        Expect.due("speed -1", x.test(0, 0, -1, true), -1);
        Expect.due("tests", x.count(6), 0);
        for (int i = 0; i < 200; i++) {
            Expect.due("test", x.test(0, i % 3, i + 1, i % 2 == 0), i);
        }
        Expect.due("a test too many", x.test(0, 0, 5, true), -1);
        Expect.due("tests", x.count(6), 200);
    }

    private static void readings() {
        TankBehind x = new TankBehind();
        x.kind(0, 1, 1, 1);
        x.person(0);
        x.person(0);
        Expect.due("no test", x.reads(0, 0), false);
        x.test(0, 0, 5, true);
        x.test(0, 0, 6, true);
        Expect.due("test -1", x.reads(-1, 0), false);
        Expect.due("no person", x.reads(0, 2), false);
        Expect.due("person -1", x.reads(0, -1), false);
        Expect.due("read", x.reads(0, 0), true);
        Expect.due("read again", x.reads(0, 0), false);
        x.clock(5);
        Expect.due("read again later", x.reads(0, 0), false);
        Expect.due("read by another", x.reads(0, 1), true);
        Expect.due("another test", x.reads(1, 0), true);
    }

    private static void readingsInAll() {
        TankBehind x = new TankBehind();
        x.kind(0, 1, 1, 1);
        for (int i = 0; i < 60; i++) {
            x.person(0);
        }
        for (int i = 0; i < 11; i++) {
            x.test(0, 0, i, true);
        }
        for (int i = 0; i < 600; i++) {
            Expect.due("reading " + i, x.reads(i / 60, i % 60), true);
        }
        Expect.due("a reading too many", x.reads(10, 0), false);
        Expect.due("nothing happened", x.knew(59, 0, 0, 0, 0), 0);
    }

    private static void knew() {
        TankBehind x = new TankBehind();
        x.kind(0, 1, 1, 1);
        x.kind(0, 1, 1, 1);
        x.person(0);
        x.person(0);
        x.test(0, 0, 40, true);
        x.test(0, 0, 30, true);
        x.test(0, 0, 10, false);
        x.test(0, 0, 20, false);
        x.test(0, 1, 5, true);
        x.test(1, 0, 6, true);
        x.test(0, 0, 0, true);
        Expect.due("nothing read", x.knew(0, 0, 0, 599, 0), -1);
        Expect.due("nothing read", x.knew(0, 0, 0, 599, 1), -1);
        x.reads(0, 0);
        x.reads(3, 0);
        x.clock(4);
        x.reads(1, 0);
        x.reads(2, 0);
        x.reads(4, 0);
        x.reads(5, 0);
        x.reads(6, 1);
        Expect.due("least by 3", x.knew(0, 0, 0, 3, 0), 40);
        Expect.due("least by 4", x.knew(0, 0, 0, 4, 0), 30);
        Expect.due("least by 599", x.knew(0, 0, 0, 599, 0), 30);
        Expect.due("greatest by 3", x.knew(0, 0, 0, 3, 1), 20);
        Expect.due("greatest by 4", x.knew(0, 0, 0, 4, 1), 20);
        Expect.due("another sort", x.knew(0, 0, 1, 4, 0), 5);
        Expect.due("another sort that did not", x.knew(0, 0, 1, 4, 1), -1);
        Expect.due("another kind", x.knew(0, 1, 0, 4, 0), 6);
        Expect.due("another person", x.knew(1, 0, 0, 4, 0), 0);
        x.clock(6);
        x.test(0, 2, 7, false);
        x.test(0, 2, 3, false);
        x.reads(7, 1);
        x.reads(8, 1);
        Expect.due("greatest ahead of its month", x.knew(1, 0, 2, 5, 1), -1);
        Expect.due("greatest in its month", x.knew(1, 0, 2, 6, 1), 7);
        Expect.due("least of those alone that burned", x.knew(1, 0, 2, 6, 0), -1);
        Expect.due("what another read that did not burn", x.knew(0, 0, 2, 6, 1), -1);
        x.test(0, 1, 8, false);
        x.reads(9, 1);
        x.test(1, 2, 9, false);
        x.reads(10, 1);
        Expect.due("greatest of its sort alone", x.knew(1, 0, 1, 6, 1), 8);
        Expect.due("greatest of its kind alone", x.knew(1, 0, 2, 6, 1), 7);
        TankBehind y = new TankBehind();
        y.kind(0, 1, 1, 1);
        y.person(0);
        y.test(0, 0, 0, false);
        Expect.due("the only one, not read", y.knew(0, 0, 0, 0, 1), -1);
        y.reads(0, 0);
        Expect.due("the only one read", y.knew(0, 0, 0, 0, 1), 0);
        Expect.due("no person", x.knew(2, 0, 0, 4, 0), -2);
        Expect.due("person -1", x.knew(-1, 0, 0, 4, 0), -2);
        Expect.due("no kind", x.knew(0, 2, 0, 4, 0), -2);
        Expect.due("no sort", x.knew(0, 0, 3, 4, 0), -2);
        Expect.due("no month", x.knew(0, 0, 0, 600, 0), -2);
        Expect.due("month -1", x.knew(0, 0, 0, -1, 0), -2);
        Expect.due("what 2", x.knew(0, 0, 0, 4, 2), -2);
        Expect.due("what -1", x.knew(0, 0, 0, 4, -1), -2);
    }

    private static void knewFails() {
        TankBehind x = new TankBehind();
        x.kind(0, 1, 1, 1);
        x.person(0);
        x.person(-1);
        x.test(0, 0, 30, true);
        x.test(0, 0, 10, false);
        x.test(0, 1, 10, true);
        x.reads(1, 0);
        x.reads(2, 0);
        Expect.due("without a rule", x.knewFails(0, 0, 1), -1);
        Expect.tell(x, "crash 0 30; crash 1 9", 0);
        Expect.due("a test that did not burn, or of another sort", x.knewFails(0, 0, 0), -1);
        Expect.due("above must", x.knewFails(0, 0, 1), -1);
        x.clock(7);
        x.reads(0, 0);
        Expect.due("just must", x.knewFails(0, 0, 0), 7);
        x.clock(9);
        Expect.due("still that month", x.knewFails(0, 0, 0), 7);
        Expect.due("another person", x.knewFails(1, 0, 0), -1);
        Expect.tell(x, "crash 0 200; crash 2 300", 9);
        x.test(0, 2, 200, true);
        Expect.due("nothing read", x.knewFails(1, 0, 2), -1);
        x.reads(3, 1);
        Expect.due("a test and must of 200", x.knewFails(1, 0, 2), 9);
        TankBehind y = new TankBehind();
        y.kind(0, 1, 1, 1);
        y.person(0);
        y.test(0, 0, 2, true);
        y.reads(0, 0);
        Expect.tell(y, "crash 0 2", 0);
        Expect.due("in month 0", y.knewFails(0, 0, 0), 0);
        Expect.tell(y, "crash 0 cars", 0);
        y.car(0, 0, 0);
        Expect.due("must by the cars", y.knewFails(0, 0, 0), -1);
        y.clock(3);
        y.car(0, 0, 0);
        Expect.due("must by the cars known", y.knewFails(0, 0, 0), 3);
        Expect.due("no person", x.knewFails(2, 0, 0), -2);
        Expect.due("person -1", x.knewFails(-1, 0, 0), -2);
        Expect.due("no kind", x.knewFails(0, 1, 0), -2);
        Expect.due("no sort", x.knewFails(0, 0, 3), -2);
    }

    /** A speed not above must: 0 is not above 0, 200 not above 200; without must there is nothing to know. */
    private static void knewFailsAtTheEdges() {
        for (int speed : new int[] {0, 1, 199, 200}) {
            for (int must = Math.max(0, speed - 1); must <= Math.min(200, speed + 1); must++) {
                TankBehind x = new TankBehind();
                x.kind(0, 1, 1, 1);
                x.person(-1);
                x.test(0, 2, speed, true);
                x.reads(0, 0);
                Expect.due("without must", x.knewFails(0, 0, 2), -1);
                Expect.tell(x, "crash 2 " + must, 0);
                Expect.due(speed + " by " + must, x.knewFails(0, 0, 2), speed <= must ? 0 : -1);
            }
        }
        TankBehind x = new TankBehind();
        x.kind(0, 1, 1, 1);
        x.person(0);
        x.test(0, 0, 5, true);
        x.clock(598);
        x.reads(0, 0);
        Expect.tell(x, "crash 0 5", 599);
        Expect.due("must from 599 on", x.knewFails(0, 0, 0), -1);
        Expect.due("knew by 597", x.knew(0, 0, 0, 597, 0), -1);
        Expect.due("knew by 598", x.knew(0, 0, 0, 598, 0), 5);
        x.clock(599);
        Expect.due("in the last month", x.knewFails(0, 0, 0), 599);
        for (int n : new int[] {-1, 60, Integer.MIN_VALUE, Integer.MAX_VALUE}) {
            Expect.due("person " + n, x.knewFails(n, 0, 0), -2);
            Expect.due("kind " + n, x.knewFails(0, n, 0), -2);
            Expect.due("sort " + n, x.knewFails(0, 0, n), -2);
            Expect.due("knew of person " + n, x.knew(n, 0, 0, 0, 0), -2);
            Expect.due("knew of kind " + n, x.knew(0, n, 0, 0, 0), -2);
            Expect.due("knew of sort " + n, x.knew(0, 0, n, 0, 0), -2);
            Expect.due("knew, what " + n, x.knew(0, 0, 0, 0, n), -2);
            Expect.due("odd(" + n + ")", x.odd(n), -1);
        }
    }

    private static void knewFailsMonthByMonth() {
        TankBehind x = new TankBehind();
        x.kind(0, 1, 1, 1);
        x.person(0);
        x.test(0, 0, 30, true);
        x.reads(0, 0);
        Expect.tell(x, "crash 0 30 if month = 5 or month >= 8", 3);
        Expect.due("behind now", x.knewFails(0, 0, 0), -1);
        x.clock(4);
        Expect.due("behind now", x.knewFails(0, 0, 0), -1);
        x.clock(5);
        Expect.due("in now", x.knewFails(0, 0, 0), 5);
        x.clock(599);
        Expect.due("the first, though not true since", x.knewFails(0, 0, 0), 5);
        TankBehind y = new TankBehind();
        y.kind(0, 1, 1, 1);
        y.person(0);
        y.test(0, 0, 30, true);
        Expect.tell(y, "crash 0 30 if month = 5 or month >= 8", 3);
        y.clock(6);
        y.reads(0, 0);
        y.clock(20);
        Expect.due("not by what was read later", y.knewFails(0, 0, 0), 8);
    }

    private static void crashes() {
        TankBehind x = new TankBehind();
        x.kind(0, 1, 1, 1);
        x.person(0);
        x.clock(9);
        x.car(0, 3, 0);
        Expect.due("car 1", x.crash(1, 5, 0, 1, 0, true, false), -1);
        Expect.due("car -1", x.crash(-1, 5, 0, 1, 0, true, false), -1);
        Expect.due("ahead of made", x.crash(0, 2, 0, 1, 0, true, false), -1);
        Expect.due("behind now", x.crash(0, 10, 0, 1, 0, true, false), -1);
        Expect.due("sort 3", x.crash(0, 5, 3, 1, 0, true, false), -1);
        Expect.due("sort -1", x.crash(0, 5, -1, 1, 0, true, false), -1);
        Expect.due("speed 201", x.crash(0, 5, 0, 201, 0, true, false), -1);
        Expect.due("speed -1", x.crash(0, 5, 0, -1, 0, true, false), -1);
        Expect.due("dead 10", x.crash(0, 5, 0, 1, 10, true, false), -1);
        Expect.due("dead -1", x.crash(0, 5, 0, 1, -1, true, false), -1);
        Expect.due("crashes", x.count(7), 0);
        for (int i = 0; i < 200; i++) {
            Expect.due("crash", x.crash(0, 3 + i / 40, 2, 200, 9, false, false), i);
        }
        Expect.due("a crash too many", x.crash(0, 9, 0, 1, 0, true, true), -1);
        Expect.due("crashes", x.count(7), 200);
        Expect.due("not wrecked by it", x.cars(0, 2), 0);
    }

    private static void crashesAtTheEdges() {
        TankBehind x = new TankBehind();
        x.kind(0, 0, 0, 0);
        x.person(0);
        x.clock(599);
        x.car(0, 0, 0);
        Expect.due("in month 0, at 0, none dead", x.crash(0, 0, 0, 0, 0, false, false), 0);
        Expect.due("odd at 0", x.odd(0), 0);
        Expect.due("in month 599, at 200, nine dead", x.crash(0, 599, 2, 200, 9, true, false), 1);
        Expect.due("odd at 200", x.odd(1), 0);
        Expect.due("ahead of that", x.crash(0, 598, 2, 200, 9, true, false), -1);
        Expect.due("in that month again", x.crash(0, 599, 1, 1, 1, false, true), 2);
        Expect.due("odd at 1", x.odd(2), 1);
        Expect.due("a wreck", x.crash(0, 599, 1, 1, 1, false, true), -1);
        Expect.due("car 300", x.crash(300, 599, 1, 1, 1, false, true), -1);
        Expect.due("crash 3", x.odd(3), -1);
        Expect.due("known in 599", x.expected(0, 599, 1), 1);
    }

    private static void crashesOfACar() {
        TankBehind x = new TankBehind();
        x.kind(0, 1, 1, 1);
        x.person(0);
        x.clock(9);
        x.car(0, 3, 0);
        x.car(0, 3, 0);
        Expect.due("in the month made", x.crash(0, 3, 0, 1, 0, true, false), 0);
        Expect.due("later", x.crash(0, 6, 0, 1, 0, true, false), 1);
        Expect.due("ahead of the one before", x.crash(0, 5, 0, 1, 0, true, false), -1);
        Expect.due("of another car", x.crash(1, 5, 0, 1, 0, true, false), 2);
        Expect.due("in the same month, wrecked", x.crash(0, 6, 0, 1, 0, true, true), 3);
        Expect.due("of a wreck", x.crash(0, 7, 0, 1, 0, true, false), -1);
        Expect.due("crashes", x.count(7), 4);
    }

    private static void odd() {
        TankBehind x = new TankBehind();
        x.kind(0, 100, 100, 100);
        x.person(0);
        x.car(0, 0, 0);
        x.crash(0, 0, 0, 10, 0, false, false);
        x.crash(0, 0, 0, 10, 0, true, false);
        x.crash(0, 0, 0, 11, 0, false, false);
        x.crash(0, 0, 0, 11, 0, true, false);
        Expect.due("not to burn, did not", x.odd(0), 0);
        Expect.due("not to burn, did", x.odd(1), 1);
        Expect.due("to burn, did not", x.odd(2), 1);
        Expect.due("to burn, did", x.odd(3), 0);
        Expect.due("no crash", x.odd(4), -1);
        Expect.due("crash -1", x.odd(-1), -1);
        x.factor(0, 50);
        Expect.due("with the factor as told last", x.odd(3), 1);
        x.kind(0, 0, 0, 0);
        x.car(1, 0, 0);
        x.crash(1, 0, 1, 5, 0, true, false);
        x.crash(0, 0, 1, 5, 0, true, false);
        Expect.due("of a car of another kind", x.odd(4), 0);
        Expect.due("of the first car", x.odd(5), 1);
    }

    private static void oddWithMending() {
        TankBehind x = new TankBehind();
        x.kind(0, 100, 100, 100);
        x.part(1, 300, 0, 0);
        x.person(0);
        x.car(0, 0, 0);
        x.clock(5);
        x.call(0, 0, 0, 0);
        x.letters(0);
        x.mend(0, 0);
        x.crash(0, 4, 0, 15, 0, true, false);
        x.crash(0, 5, 0, 15, 0, true, false);
        Expect.due("ahead of the mending", x.odd(0), 0);
        Expect.due("mended in its month", x.odd(1), 1);
    }

    private static TankBehind twoKinds() {
        TankBehind x = new TankBehind();
        x.person(0);
        x.clock(3);
        for (int kind = 0; kind < 3; kind++) {
            x.kind(0, 1, 1, 1);
            x.car(kind, 0, 0);
        }
        return x;
    }

    private static void rate(TankBehind x, int kind, int known, String what, long... want) {
        for (int part = 0; part < 4; part++) {
            Expect.due(what + ", part " + part, x.expected(kind, known, part), want[part]);
        }
    }

    private static void expected() {
        TankBehind x = twoKinds();
        rate(x, 0, 3, "without crashes", 0, 1, 0, 0);
        x.crash(0, 0, 0, 10, 0, true, false);
        x.crash(0, 0, 1, 10, 0, true, false);
        x.crash(0, 0, 1, 10, 0, false, false);
        rate(x, 0, 3, "without others", 0, 1, 0, 0);
        x.crash(1, 0, 1, 10, 0, false, false);
        rate(x, 0, 3, "others without fires", 0, 1, 1, 2);
        x.clock(5);
        x.crash(2, 0, 1, 10, 0, true, false);
        x.crash(2, 0, 1, 10, 0, true, false);
        rate(x, 0, 5, "two of three others", 4, 3, 1, 2);
        rate(x, 0, 4, "as known ahead of them", 0, 1, 1, 2);
        rate(x, 0, 2, "as known ahead of all", 0, 1, 0, 0);
        rate(x, 0, 599, "as known later", 4, 3, 1, 2);
        rate(x, 1, 5, "three of four others", 3, 4, 0, 1);
        Expect.due("kind 3", x.expected(3, 5, 0), -1);
        Expect.due("kind -1", x.expected(-1, 5, 0), -1);
        Expect.due("month 600", x.expected(0, 600, 0), -1);
        Expect.due("month -1", x.expected(0, -1, 0), -1);
        Expect.due("part 4", x.expected(0, 5, 4), -1);
        Expect.due("part -1", x.expected(0, 5, -1), -1);
    }

    private static void expectedOfSpeeds() {
        TankBehind x = twoKinds();
        int[] speeds = {0, 49, 50, 99, 100, 200};
        for (int speed : speeds) {
            x.crash(0, 0, 2, speed, 0, false, false);
        }
        x.crash(1, 0, 2, 49, 0, true, false);
        rate(x, 0, 3, "below 50", 2, 1, 0, 2);
        x.crash(1, 0, 2, 50, 0, true, false);
        rate(x, 0, 3, "50 and above", 4, 1, 0, 4);
        x.crash(1, 0, 2, 99, 0, false, false);
        rate(x, 0, 3, "up to 99", 3, 1, 0, 4);
        x.crash(1, 0, 2, 200, 0, true, false);
        rate(x, 0, 3, "100 and more", 5, 1, 0, 6);
        x.crash(1, 0, 2, 100, 0, false, false);
        rate(x, 0, 3, "100 and more", 4, 1, 0, 6);
        x.crash(1, 0, 0, 100, 0, true, false);
        rate(x, 0, 3, "a stratum without its own", 4, 1, 0, 6);
    }

    private static void expectedInLowestTerms() {
        TankBehind x = twoKinds();
        // Nine strata, one crash of kind 0 in each; of the others one fire among 2, 3, .. 10 crashes.
        for (int i = 0; i < 9; i++) {
            x.crash(0, 0, i / 3, i % 3 * 50, 0, i % 2 == 0, false);
            for (int n = 0; n < i + 2; n++) {
                x.crash(1 + n % 2, 0, i / 3, i % 3 * 50, 0, n == 0, false);
            }
        }
        rate(x, 0, 3, "1/2 + 1/3 + .. + 1/10", 4861, 2520, 5, 9);
    }
}
