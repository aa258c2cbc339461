/** Promises 38 to 43: calls back to the shop, letters, mending, what is left, and who moves. */
public final class RecallsTest {
    private RecallsTest() {
    }

    public static void main(String[] args) {
        calls();
        lettersToKindAndMonths();
        lettersToOwners();
        lettersAfterMoves();
        reached();
        mending();
        left();
        twoCalls();
        moves();
        calledAtTheEdges();
        anyNumbers();
        Expect.finish("RecallsTest");
    }

    /** Two kinds, two parts, two persons; cars of kind 0 made in 2, 3, 4 and one of kind 1 made in 3; NOW is 5. */
    private static TankBehind yard() {
        TankBehind x = new TankBehind();
        x.person(-1);
        x.person(-1);
        x.kind(0, 0, 0, 0);
        x.kind(0, 0, 0, 0);
        x.part(1, 100, 0, 0);
        x.part(1, 0, 100, 0);
        x.clock(5);
        x.car(0, 2, 0);
        x.car(0, 3, 0);
        x.car(0, 4, 1);
        x.car(1, 3, 0);
        return x;
    }

    private static void calls() {
        TankBehind x = yard();
        Expect.due("kind 2", x.call(2, 0, 5, 0), -1);
        Expect.due("kind -1", x.call(-1, 0, 5, 0), -1);
        Expect.due("a -1", x.call(0, -1, 5, 0), -1);
        Expect.due("b 600", x.call(0, 0, 600, 0), -1);
        Expect.due("a behind b", x.call(0, 5, 4, 0), -1);
        Expect.due("part 2", x.call(0, 0, 5, 2), -1);
        Expect.due("part -1", x.call(0, 0, 5, -1), -1);
        Expect.due("calls", x.count(10), 0);
        for (int i = 0; i < 20; i++) {
            Expect.due("call", x.call(i % 2, i, i % 2 == 0 ? i : 599, i % 2), i);
        }
        Expect.due("a call too many", x.call(0, 0, 5, 0), -1);
        Expect.due("calls", x.count(10), 20);
    }

    private static void lettersToKindAndMonths() {
        TankBehind x = yard();
        Expect.due("no call", x.letters(0), -1);
        x.call(0, 3, 4, 0);
        x.call(1, 0, 599, 0);
        x.call(0, 5, 9, 0);
        Expect.due("call -1", x.letters(-1), -1);
        Expect.due("call 3", x.letters(3), -1);
        Expect.due("kind 0, 3 to 4", x.letters(0), 2);
        Expect.due("made ahead is none of it", x.reached(0, 0), -1);
        Expect.due("made in a", x.reached(0, 1), 1);
        Expect.due("made in b", x.reached(0, 2), 1);
        Expect.due("another kind is none of it", x.reached(0, 3), -1);
        Expect.due("kind 1", x.letters(1), 1);
        Expect.due("none made then", x.letters(2), 0);
        Expect.due("once more", x.letters(0), 2);
        x.car(0, 3, 0);
        Expect.due("a car told behind the call", x.letters(0), 3);
        x.crash(1, 5, 0, 1, 0, false, true);
        Expect.due("none to a wreck", x.letters(0), 2);
        Expect.due("a wreck that was reached", x.reached(0, 1), 1);
    }

    private static void lettersToOwners() {
        TankBehind x = yard();
        x.call(0, 0, 5, 0);
        x.moves(0, true);
        Expect.due("one owner moved", x.letters(0), 1);
        Expect.due("his car", x.reached(0, 0), 0);
        Expect.due("the other's car", x.reached(0, 2), 1);
        x.sell(0, 1, 3);
        Expect.due("sold to one who did not move", x.letters(0), 2);
        Expect.due("his car then", x.reached(0, 0), 1);
        x.sell(2, 0, 5);
        Expect.due("sold to one who moved", x.letters(0), 1);
        Expect.due("reached ahead of the sale", x.reached(0, 2), 1);
    }

    private static void lettersAfterMoves() {
        TankBehind x = yard();
        x.call(0, 0, 5, 0);
        x.moves(0, true);
        x.clock(8);
        Expect.due("in later months", x.letters(0), 1);
        x.moves(0, false);
        Expect.due("when found", x.letters(0), 3);
    }

    private static void reached() {
        TankBehind x = yard();
        x.call(0, 0, 5, 0);
        x.call(0, 0, 5, 1);
        Expect.due("ahead of letters", x.reached(0, 0), 0);
        x.letters(0);
        Expect.due("behind letters", x.reached(0, 0), 1);
        Expect.due("of another call", x.reached(1, 0), 0);
        Expect.due("call 2", x.reached(2, 0), -1);
        Expect.due("call -1", x.reached(-1, 0), -1);
        Expect.due("car 4", x.reached(0, 4), -1);
        Expect.due("car -1", x.reached(0, -1), -1);
        Expect.due("none of it", x.reached(0, 3), -1);
        x.moves(0, true);
        x.letters(0);
        Expect.due("once reached", x.reached(0, 0), 1);
    }

    private static void mending() {
        TankBehind x = yard();
        Expect.due("no call", x.mend(0, 0), false);
        x.call(0, 0, 5, 0);
        Expect.due("not reached", x.mend(0, 0), false);
        x.letters(0);
        Expect.due("call 1", x.mend(1, 0), false);
        Expect.due("call -1", x.mend(-1, 0), false);
        Expect.due("car 4", x.mend(0, 4), false);
        Expect.due("car -1", x.mend(0, -1), false);
        Expect.due("none of it", x.mend(0, 3), false);
        Expect.due("mended", x.mend(0, 0), true);
        Expect.due("its part", x.cars(0, 3), 1);
        Expect.due("mended again", x.mend(0, 0), false);
        Expect.due("no letters to the mended", x.letters(0), 2);
        x.crash(1, 5, 0, 1, 0, false, true);
        Expect.due("a wreck", x.mend(0, 1), false);
        Expect.due("no part", x.cars(1, 3), 0);
        x.moves(1, true);
        Expect.due("its owner moved since", x.mend(0, 2), true);
    }

    private static void left() {
        TankBehind x = yard();
        Expect.due("no call", x.left(0, -1), -1);
        x.call(0, 0, 5, 0);
        Expect.due("call -1", x.left(-1, -1), -1);
        Expect.due("how many", x.left(0, -1), 3);
        Expect.due("the first", x.left(0, 0), 0);
        Expect.due("the second", x.left(0, 1), 1);
        Expect.due("the last", x.left(0, 2), 2);
        Expect.due("behind the last", x.left(0, 3), -1);
        Expect.due("k -2", x.left(0, -2), -1);
        x.letters(0);
        Expect.due("reached is left", x.left(0, -1), 3);
        x.mend(0, 0);
        Expect.due("one mended", x.left(0, -1), 2);
        Expect.due("the first then", x.left(0, 0), 1);
        x.crash(1, 5, 0, 1, 0, false, true);
        Expect.due("one wrecked", x.left(0, -1), 1);
        Expect.due("the first then", x.left(0, 0), 2);
        x.mend(0, 2);
        Expect.due("none", x.left(0, -1), 0);
        Expect.due("no first", x.left(0, 0), -1);
    }

    private static void twoCalls() {
        TankBehind x = yard();
        x.call(0, 0, 5, 0);
        x.call(0, 0, 5, 1);
        x.letters(0);
        x.letters(1);
        Expect.due("by the first", x.mend(0, 0), true);
        Expect.due("left by the second", x.left(1, -1), 3);
        Expect.due("letters of the second", x.letters(1), 3);
        Expect.due("by the second", x.mend(1, 0), true);
        Expect.due("both parts", x.cars(0, 3), 3);
    }

    private static void moves() {
        TankBehind x = new TankBehind();
        Expect.due("no person", x.moves(0, true), false);
        x.person(-1);
        Expect.due("person -1", x.moves(-1, true), false);
        Expect.due("person 1", x.moves(1, true), false);
        Expect.due("found, not moved", x.moves(0, false), false);
        Expect.due("moves", x.moves(0, true), true);
        Expect.due("moves again", x.moves(0, true), false);
        Expect.due("found", x.moves(0, false), true);
        Expect.due("found again", x.moves(0, false), false);
        Expect.due("moves once more", x.moves(0, true), true);
    }

    /** Cars made in each month of a to b, in no other. */
    private static void calledAtTheEdges() {
        TankBehind x = new TankBehind();
        x.person(0);
        x.kind(0, 0, 0, 0);
        x.part(0, 0, 0, 0);
        x.clock(599);
        for (int made : new int[] {0, 1, 2, 598, 599}) {
            x.car(0, made, 0);
        }
        int[][] months =
            {{0, 0, 1}, {0, 1, 2}, {1, 1, 1}, {1, 598, 3}, {2, 599, 3}, {599, 599, 1}, {0, 599, 5}, {3, 597, 0}};
        for (int call = 0; call < months.length; call++) {
            String name = "call from " + months[call][0] + " to " + months[call][1];
            Expect.due(name, x.call(0, months[call][0], months[call][1], 0), call);
            Expect.due(name + " has", x.left(call, -1), months[call][2]);
            Expect.due(name + " reaches", x.letters(call), months[call][2]);
            Expect.due(name + " leaves no more", x.left(call, months[call][2]), -1);
        }
        Expect.due("made in a", x.reached(1, 0), 1);
        Expect.due("made in b", x.reached(1, 1), 1);
        Expect.due("made behind b", x.reached(1, 2), -1);
        Expect.due("made ahead of a", x.reached(4, 1), -1);
        Expect.due("none of it is not mended", x.mend(1, 2), false);
        Expect.due("a behind b", x.call(0, 1, 0, 0), -1);
    }

    private static void anyNumbers() {
        TankBehind x = yard();
        x.call(0, 0, 5, 0);
        x.letters(0);
        for (int n : new int[] {-1, 1, 20, 31, 32, 64, Integer.MIN_VALUE, Integer.MAX_VALUE}) {
            Expect.due("letters(" + n + ")", x.letters(n), -1);
            Expect.due("reached(" + n + ", 0)", x.reached(n, 0), -1);
            Expect.due("mend(" + n + ", 0)", x.mend(n, 0), false);
            Expect.due("left(" + n + ", 0)", x.left(n, 0), -1);
            Expect.due("left(" + n + ", -1)", x.left(n, -1), -1);
        }
        for (int n : new int[] {-2, 4, 299, 300, Integer.MIN_VALUE, Integer.MAX_VALUE}) {
            Expect.due("reached(0, " + n + ")", x.reached(0, n), -1);
            Expect.due("mend(0, " + n + ")", x.mend(0, n), false);
            Expect.due("left(0, " + n + ")", x.left(0, n), -1);
        }
        Expect.due("it was reached all the while", x.mend(0, 0), true);
        TankBehind y = yard();
        for (int i = 0; i < 20; i++) {
            y.call(0, 0, 5, 1);
        }
        Expect.due("letters of the last call", y.letters(19), 3);
        Expect.due("mended by the last call", y.mend(19, 2), true);
        Expect.due("left by it", y.left(19, -1), 2);
        Expect.due("left by the first", y.left(0, -1), 3);
    }
}
