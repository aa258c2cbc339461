/** Promises 1 to 13: persons, kinds, parts, cars, sales, force and what burns. */
public final class CarsTest {
    private CarsTest() {
    }

    public static void main(String[] args) {
        newObject();
        clock();
        persons();
        factors();
        kinds();
        parts();
        fits();
        carsOfAKind();
        sales();
        salesInAll();
        owners();
        ownerSoldTwiceInAMonth();
        carsAsTold();
        forces();
        burning();
        burningWithParts();
        bearingMost();
        lastKindAndPart();
        Expect.finish("CarsTest");
    }

    private static void newObject() {
        TankBehind x = new TankBehind();
        for (int what = 0; what <= 11; what++) {
            Expect.due("new count(" + what + ")", x.count(what), 0);
        }
        Expect.due("new inForce(0)", x.inForce(0), -1);
        Expect.due("new must(0, 0, 0)", x.must(0, 0, 0), -2);
        Expect.due("new car(0, 0, 0)", x.car(0, 0, 0), -1);
        Expect.due("new memo(0)", x.memo(0), -1);
        Expect.due("NONE", TankBehind.NONE, -1);
    }

    private static void clock() {
        TankBehind x = new TankBehind();
        Expect.due("clock(-1)", x.clock(-1), false);
        Expect.due("clock(0)", x.clock(0), true);
        Expect.due("clock(10)", x.clock(10), true);
        Expect.due("clock(10) again", x.clock(10), true);
        Expect.due("clock(9)", x.clock(9), false);
        Expect.due("clock(600)", x.clock(600), false);
        Expect.due("clock(max)", x.clock(Integer.MAX_VALUE), false);
        Expect.due("now", x.count(0), 10);
        Expect.due("clock(599)", x.clock(599), true);
        Expect.due("clock(598)", x.clock(598), false);
        Expect.due("now", x.count(0), 599);
    }

    private static void persons() {
        TankBehind x = new TankBehind();
        Expect.due("person(4)", x.person(4), -1);
        Expect.due("person(-2)", x.person(-2), -1);
        Expect.due("persons", x.count(1), 0);
        for (int i = 0; i < 60; i++) {
            Expect.due("person", x.person(i % 5 - 1), i);
        }
        Expect.due("a person too many", x.person(0), -1);
        Expect.due("persons", x.count(1), 60);
    }

    private static void factors() {
        TankBehind x = new TankBehind();
        Expect.due("factor(0, 1)", x.factor(0, 1), 100);
        Expect.due("factor(0, 999)", x.factor(0, 999), 1);
        Expect.due("factor(0, 0)", x.factor(0, 0), -1);
        Expect.due("factor(0, 1000)", x.factor(0, 1000), -1);
        Expect.due("factor(-1, 5)", x.factor(-1, 5), -1);
        Expect.due("factor(3, 5)", x.factor(3, 5), -1);
        Expect.due("factor(0, 7)", x.factor(0, 7), 999);
        Expect.due("factor(1, 7)", x.factor(1, 7), 100);
        Expect.due("factor(2, 8)", x.factor(2, 8), 100);
        Expect.due("factor(2, 9)", x.factor(2, 9), 8);
    }

    private static void kinds() {
        TankBehind x = new TankBehind();
        Expect.due("kind of no firm", x.kind(-1, 1, 1, 1), -1);
        Expect.due("kind of firm 4", x.kind(4, 1, 1, 1), -1);
        Expect.due("kind a -1", x.kind(0, -1, 1, 1), -1);
        Expect.due("kind a 100000", x.kind(0, 100000, 1, 1), -1);
        Expect.due("kind b -1", x.kind(0, 1, -1, 1), -1);
        Expect.due("kind b 100000", x.kind(0, 1, 100000, 1), -1);
        Expect.due("kind c -1", x.kind(0, 1, 1, -1), -1);
        Expect.due("kind c 100000", x.kind(0, 1, 1, 100000), -1);
        Expect.due("kinds", x.count(2), 0);
        for (int i = 0; i < 8; i++) {
            Expect.due("kind", x.kind(i % 4, 0, 99999, i), i);
        }
        Expect.due("a kind too many", x.kind(0, 1, 1, 1), -1);
        Expect.due("kinds", x.count(2), 8);
    }

    private static void parts() {
        TankBehind x = new TankBehind();
        Expect.due("part coins -1", x.part(-1, 0, 0, 0), -1);
        Expect.due("part coins 10000", x.part(10000, 0, 0, 0), -1);
        Expect.due("part a -1", x.part(0, -1, 0, 0), -1);
        Expect.due("part a 10000", x.part(0, 10000, 0, 0), -1);
        Expect.due("part b -1", x.part(0, 0, -1, 0), -1);
        Expect.due("part b 10000", x.part(0, 0, 10000, 0), -1);
        Expect.due("part c -1", x.part(0, 0, 0, -1), -1);
        Expect.due("part c 10000", x.part(0, 0, 0, 10000), -1);
        Expect.due("parts", x.count(3), 0);
        for (int i = 0; i < 12; i++) {
            Expect.due("part", x.part(i == 0 ? 9999 : 0, 9999, 0, i), i);
        }
        Expect.due("a part too many", x.part(0, 0, 0, 0), -1);
        Expect.due("parts", x.count(3), 12);
    }

    private static void fits() {
        TankBehind x = new TankBehind();
        Expect.due("fit without kind", x.fit(0, 0, 0), false);
        x.kind(0, 0, 0, 0);
        Expect.due("fit without part", x.fit(0, 0, 0), false);
        x.part(1, 1, 1, 1);
        x.part(2, 1, 1, 1);
        Expect.due("fit(1, 0, 0)", x.fit(1, 0, 0), false);
        Expect.due("fit(-1, 0, 0)", x.fit(-1, 0, 0), false);
        Expect.due("fit(0, 2, 0)", x.fit(0, 2, 0), false);
        Expect.due("fit(0, -1, 0)", x.fit(0, -1, 0), false);
        Expect.due("fit(0, 0, -1)", x.fit(0, 0, -1), false);
        Expect.due("fit(0, 0, 600)", x.fit(0, 0, 600), false);
        Expect.due("fit(0, 0, 599)", x.fit(0, 0, 599), true);
        Expect.due("fit(0, 0, 599) again", x.fit(0, 0, 599), false);
        Expect.due("fit(0, 0, 5)", x.fit(0, 0, 5), true);
        Expect.due("fit(0, 0, 6)", x.fit(0, 0, 6), false);
        Expect.due("fit(0, 0, 0)", x.fit(0, 0, 0), true);
        Expect.due("fit(0, 1, 3)", x.fit(0, 1, 3), true);
        x.clock(9);
        x.person(-1);
        x.car(0, 2, 0);
        x.car(0, 3, 0);
        Expect.due("parts of a car made ahead", x.cars(0, 3), 1);
        Expect.due("parts of a car made then", x.cars(1, 3), 3);
    }

    private static void carsOfAKind() {
        TankBehind x = new TankBehind();
        x.kind(0, 1, 1, 1);
        Expect.due("car without person", x.car(0, 0, 0), -1);
        x.person(0);
        x.clock(4);
        Expect.due("car(1, 0, 0)", x.car(1, 0, 0), -1);
        Expect.due("car(-1, 0, 0)", x.car(-1, 0, 0), -1);
        Expect.due("car(0, -1, 0)", x.car(0, -1, 0), -1);
        Expect.due("car(0, 5, 0)", x.car(0, 5, 0), -1);
        Expect.due("car(0, 0, 1)", x.car(0, 0, 1), -1);
        Expect.due("car(0, 0, -1)", x.car(0, 0, -1), -1);
        Expect.due("cars", x.count(4), 0);
        for (int i = 0; i < 300; i++) {
            Expect.due("car", x.car(0, i % 5, 0), i);
        }
        Expect.due("a car too many", x.car(0, 0, 0), -1);
        Expect.due("cars", x.count(4), 300);
        Expect.due("made of the last", x.cars(299, 1), 4);
        Expect.due("the last is owned", x.owner(299, 4, 4), 0);
        x.part(0, 0, 0, 0);
        x.call(0, 0, 599, 0);
        Expect.due("letters to all", x.letters(0), 300);
        Expect.due("the last reached", x.reached(0, 299), 1);
        Expect.due("the last left", x.left(0, 299), 299);
        Expect.due("none behind it", x.left(0, 300), -1);
        Expect.due("car 300 is none", x.cars(300, 0), -1);
        Expect.due("no owner of it", x.owner(300, 4, 4), -1);
        Expect.due("it does not burn", x.burns(300, 4, 0, 1, -1), -1);
        Expect.due("nor crash", x.crash(300, 4, 0, 1, 0, true, true), -1);
        Expect.due("nor is it sold", x.sell(300, 0, 4), false);
        Expect.due("nor reached", x.reached(0, 300), -1);
        Expect.due("nor mended", x.mend(0, 300), false);
        Expect.due("the last mended", x.mend(0, 299), true);
        Expect.due("the last crashed", x.crash(299, 4, 0, 1, 0, true, true), 0);
        Expect.due("the last not left", x.left(0, -1), 299);
    }

    private static void sales() {
        TankBehind x = new TankBehind();
        x.person(-1);
        x.person(-1);
        x.person(-1);
        x.kind(0, 1, 1, 1);
        x.clock(10);
        x.car(0, 3, 0);
        Expect.due("sell(1, 1, 5)", x.sell(1, 1, 5), false);
        Expect.due("sell(-1, 1, 5)", x.sell(-1, 1, 5), false);
        Expect.due("sell(0, 3, 5)", x.sell(0, 3, 5), false);
        Expect.due("sell(0, -1, 5)", x.sell(0, -1, 5), false);
        Expect.due("sell(0, 0, 5) to its owner", x.sell(0, 0, 5), false);
        Expect.due("sell(0, 1, 2) ahead of made", x.sell(0, 1, 2), false);
        Expect.due("sell(0, 1, 11) behind now", x.sell(0, 1, 11), false);
        Expect.due("sell(0, 1, 3)", x.sell(0, 1, 3), true);
        Expect.due("sell(0, 1, 6) to its owner", x.sell(0, 1, 6), false);
        Expect.due("sell(0, 2, 6)", x.sell(0, 2, 6), true);
        Expect.due("sell(0, 0, 5) ahead of the last", x.sell(0, 0, 5), false);
        Expect.due("sell(0, 0, 10)", x.sell(0, 0, 10), true);
    }

    private static void salesInAll() {
        TankBehind x = new TankBehind();
        x.person(0);
        x.person(0);
        x.kind(0, 1, 1, 1);
        x.car(0, 0, 0);
        for (int i = 0; i < 400; i++) {
            Expect.due("sale " + i, x.sell(0, 1 - i % 2, 0), true);
        }
        Expect.due("a sale too many", x.sell(0, 1, 0), false);
        Expect.due("owner after them", x.owner(0, 0, 0), 0);
    }

    private static void owners() {
        TankBehind x = new TankBehind();
        for (int i = 0; i < 4; i++) {
            x.person(-1);
        }
        x.kind(0, 1, 1, 1);
        x.clock(5);
        x.car(0, 2, 0);
        x.car(0, 2, 3);
        x.clock(8);
        x.sell(0, 1, 4);
        x.clock(12);
        x.sell(0, 2, 6);
        Expect.due("first owner", x.owner(0, 2, 12), 0);
        Expect.due("ahead of the sale", x.owner(0, 3, 12), 0);
        Expect.due("in the sale's month", x.owner(0, 4, 12), 1);
        Expect.due("between", x.owner(0, 5, 12), 1);
        Expect.due("behind both", x.owner(0, 6, 12), 2);
        Expect.due("behind both, known later", x.owner(0, 599, 599), 2);
        Expect.due("as known ahead of the second", x.owner(0, 6, 11), 1);
        Expect.due("as known with the first", x.owner(0, 6, 8), 1);
        Expect.due("as known ahead of the first", x.owner(0, 6, 7), 0);
        Expect.due("as known when told", x.owner(0, 6, 5), 0);
        Expect.due("not known yet", x.owner(0, 6, 4), -1);
        Expect.due("ahead of made", x.owner(0, 1, 12), -1);
        Expect.due("of another car", x.owner(1, 6, 12), 3);
        x.sell(1, 0, 6);
        Expect.due("the other car sold", x.owner(1, 6, 12), 0);
        Expect.due("the first car as it was", x.owner(0, 6, 12), 2);
        Expect.due("owner(2, 6, 12)", x.owner(2, 6, 12), -1);
        Expect.due("owner(-1, 6, 12)", x.owner(-1, 6, 12), -1);
        Expect.due("owner(0, 600, 12)", x.owner(0, 600, 12), -1);
        Expect.due("owner(0, 6, 600)", x.owner(0, 6, 600), -1);
        Expect.due("owner(0, 6, -1)", x.owner(0, 6, -1), -1);
        Expect.due("owner(0, -1, 12)", x.owner(0, -1, 12), -1);
        for (int car : new int[] {299, 300, Integer.MIN_VALUE, Integer.MAX_VALUE}) {
            Expect.due("owner of car " + car, x.owner(car, 6, 12), -1);
            Expect.due("cars(" + car + ", 0)", x.cars(car, 0), -1);
            Expect.due("burns of car " + car, x.burns(car, 6, 0, 1, -1), -1);
        }
    }

    private static void ownerSoldTwiceInAMonth() {
        TankBehind x = new TankBehind();
        x.person(0);
        x.person(0);
        x.person(0);
        x.kind(0, 1, 1, 1);
        x.car(0, 0, 0);
        x.sell(0, 1, 0);
        x.sell(0, 2, 0);
        Expect.due("the last told of a month", x.owner(0, 0, 0), 2);
    }

    private static void carsAsTold() {
        TankBehind x = new TankBehind();
        x.person(0);
        x.kind(0, 1, 1, 1);
        x.kind(0, 1, 1, 1);
        x.part(1, 0, 0, 0);
        x.part(1, 0, 0, 0);
        x.clock(3);
        x.car(1, 2, 0);
        x.fit(1, 1, 0);
        Expect.due("kind", x.cars(0, 0), 1);
        Expect.due("made", x.cars(0, 1), 2);
        Expect.due("not wrecked", x.cars(0, 2), 0);
        Expect.due("parts", x.cars(0, 3), 2);
        Expect.due("another what", x.cars(0, 4), -1);
        Expect.due("what -1", x.cars(0, -1), -1);
        Expect.due("another car", x.cars(1, 0), -1);
        Expect.due("car -1", x.cars(-1, 0), -1);
        x.crash(0, 2, 0, 1, 0, false, false);
        Expect.due("crashed", x.cars(0, 2), 0);
        x.crash(0, 2, 0, 1, 0, false, true);
        Expect.due("wrecked", x.cars(0, 2), 1);
        x.call(1, 0, 3, 0);
        Expect.due("no letters to a wreck", x.letters(0), 0);
        x.car(1, 3, 0);
        x.letters(0);
        x.mend(0, 1);
        Expect.due("parts with the mended one", x.cars(1, 3), 3);
    }

    private static void forces() {
        TankBehind x = new TankBehind();
        Expect.due("force(0, 0)", x.force(0, 0), 0);
        Expect.due("force(2, 200)", x.force(2, 200), 40000);
        x.factor(1, 99);
        Expect.due("force(1, 7) downwards", x.force(1, 7), 48);
        x.factor(1, 999);
        Expect.due("force(1, 200)", x.force(1, 200), 399600);
        Expect.due("force(0, 7) of another sort", x.force(0, 7), 49);
        Expect.due("force(0, -1)", x.force(0, -1), -1);
        Expect.due("force(0, 201)", x.force(0, 201), -1);
        Expect.due("force(-1, 1)", x.force(-1, 1), -1);
        Expect.due("force(3, 1)", x.force(3, 1), -1);
    }

    private static void burning() {
        TankBehind x = new TankBehind();
        x.person(0);
        x.kind(0, 100, 400, 900);
        x.clock(5);
        x.car(0, 2, 0);
        Expect.due("just borne", x.burns(0, 2, 0, 10, -1), 0);
        Expect.due("just above", x.burns(0, 2, 0, 11, -1), 1);
        Expect.due("sort 1 borne", x.burns(0, 2, 1, 20, -1), 0);
        Expect.due("sort 1 above", x.burns(0, 2, 1, 21, -1), 1);
        Expect.due("sort 2 borne", x.burns(0, 599, 2, 30, -1), 0);
        Expect.due("sort 2 above", x.burns(0, 599, 2, 31, -1), 1);
        Expect.due("no car", x.burns(1, 2, 0, 10, -1), -1);
        Expect.due("car -1", x.burns(-1, 2, 0, 10, -1), -1);
        Expect.due("ahead of made", x.burns(0, 1, 0, 10, -1), -1);
        Expect.due("no month", x.burns(0, 600, 0, 10, -1), -1);
        Expect.due("no sort", x.burns(0, 2, 3, 10, -1), -1);
        Expect.due("no speed", x.burns(0, 2, 0, 201, -1), -1);
        Expect.due("speed -1", x.burns(0, 2, 0, -1, -1), -1);
        Expect.due("no part", x.burns(0, 2, 0, 10, 0), -1);
        Expect.due("part -2", x.burns(0, 2, 0, 10, -2), -1);
    }

    private static void burningWithParts() {
        TankBehind x = new TankBehind();
        x.person(0);
        x.kind(0, 0, 0, 0);
        x.part(1, 100, 0, 0);
        x.part(1, 300, 0, 0);
        x.fit(0, 0, 1);
        x.clock(4);
        x.car(0, 0, 0);
        x.car(0, 1, 0);
        Expect.due("made ahead of the part", x.burns(0, 4, 0, 10, -1), 1);
        Expect.due("with the part more", x.burns(0, 4, 0, 10, 0), 0);
        Expect.due("with the part had", x.burns(1, 1, 0, 10, -1), 0);
        Expect.due("each part once", x.burns(1, 1, 0, 11, 0), 1);
        Expect.due("two parts", x.burns(1, 1, 0, 20, 1), 0);
        Expect.due("two parts, above", x.burns(1, 1, 0, 21, 1), 1);
        x.call(0, 0, 0, 1);
        x.letters(0);
        x.mend(0, 0);
        Expect.due("ahead of the mending", x.burns(0, 3, 0, 17, -1), 1);
        Expect.due("mended", x.burns(0, 4, 0, 17, -1), 0);
        Expect.due("mended, above", x.burns(0, 4, 0, 18, -1), 1);
        Expect.due("mended and the same part more", x.burns(0, 4, 0, 18, 1), 1);
        Expect.due("mended and another part more", x.burns(0, 4, 0, 20, 0), 0);
        x.clock(9);
        x.call(0, 0, 0, 1);
        x.letters(1);
        Expect.due("mended with it again", x.mend(1, 0), true);
        Expect.due("still had from the first mending on", x.burns(0, 4, 0, 17, -1), 0);
        Expect.due("mended twice adds once", x.burns(0, 9, 0, 18, -1), 1);
    }

    /** The most and the least that a kind may bear and a part may add, told of each sort alone. */
    private static void bearingMost() {
        for (int sort = 0; sort < 3; sort++) {
            TankBehind x = new TankBehind();
            x.person(0);
            for (int other = 0; other < 3; other++) {
                x.factor(other, 999);
            }
            int all = 99999;
            Expect.due("kind", x.kind(3, sort == 0 ? all : 0, sort == 1 ? all : 0, sort == 2 ? all : 0), 0);
            int most = 9999;
            Expect.due("part", x.part(9999, sort == 0 ? most : 0, sort == 1 ? most : 0, sort == 2 ? most : 0), 0);
            x.car(0, 0, 0);
            for (int asked = 0; asked < 3; asked++) {
                boolean bears = asked == sort;
                Expect.due("at 0", x.burns(0, 0, asked, 0, -1), 0);
                Expect.due("at 1", x.burns(0, 0, asked, 1, -1), bears ? 0 : 1);
                Expect.due("99900 at 100", x.burns(0, 0, asked, 100, -1), bears ? 0 : 1);
                Expect.due("101907 at 101", x.burns(0, 0, asked, 101, -1), 1);
                Expect.due("101907 at 101, with the part", x.burns(0, 0, asked, 101, 0), bears ? 0 : 1);
                Expect.due("110139 at 105, with the part", x.burns(0, 0, asked, 105, 0), 1);
                Expect.due("399600 at 200", x.burns(0, 0, asked, 200, 0), 1);
            }
        }
        // Just as much as a kind with its part bears: 99999 and 9999, of which 109998 is the sum.
        TankBehind y = new TankBehind();
        y.person(0);
        y.kind(0, 99999, 99999 - 1, 0);
        y.part(0, 9999, 9999, 0);
        y.car(0, 0, 0);
        y.fit(0, 0, 0);
        y.factor(0, 687);
        y.factor(1, 275);
        Expect.due("force 109920", y.force(0, 126) * 1000L + y.burns(0, 0, 0, 126, -1), 109068000);
        Expect.due("force 110000 above 109998", y.force(1, 200) * 1000L + y.burns(0, 0, 1, 200, -1), 110000001);
        y.factor(0, 275);
        Expect.due("force 110000 above 109998 of the other", y.burns(0, 0, 0, 200, -1), 1);
        y.factor(0, 274);
        Expect.due("force 109600 not above it", y.burns(0, 0, 0, 200, -1), 0);
    }

    private static void lastKindAndPart() {
        TankBehind x = new TankBehind();
        x.person(0);
        for (int i = 0; i < 8; i++) {
            x.kind(0, 0, 0, 0);
        }
        for (int i = 0; i < 12; i++) {
            x.part(0, 100, 0, 0);
        }
        Expect.due("the last part in the last kind", x.fit(7, 11, 599), true);
        Expect.due("from month 0 on", x.fit(7, 11, 0), true);
        Expect.due("a car of the last kind", x.car(7, 0, 0), 0);
        Expect.due("its parts", x.cars(0, 3), 1 << 11);
        Expect.due("the first part", x.fit(7, 0, 0), true);
        Expect.due("its parts", x.cars(0, 3), 1 << 11 | 1);
        Expect.due("with the last part more", x.burns(0, 0, 0, 15, 11), 1);
        Expect.due("with part 10 more", x.burns(0, 0, 0, 15, 10), 0);
        Expect.due("part 12", x.burns(0, 0, 0, 15, 12), -1);
        Expect.due("kind 8", x.fit(8, 0, 0), false);
        Expect.due("part 12", x.fit(0, 12, 0), false);
    }
}
