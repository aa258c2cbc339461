/** Promises 44 to 49: what a jury gives, rules that save, and what is counted. */
public final class JuryAndSaversTest {
    private JuryAndSaversTest() {
    }

    public static void main(String[] args) {
        jury();
        juryAboveMost();
        juryWords();
        juryKnew();
        juryKnewOthers();
        juryPart();
        juryPartWithMending();
        juryAtItsEdges();
        juryAndTheFirst();
        savers();
        overlaps();
        best();
        bestByTrial();
        counts();
        Expect.finish("JuryAndSaversTest");
    }

    /** A kind of firm 1, a car made in 2, and a crash in 4 told in 6 of sort 1 at 50 with 3 dead. */
    private static TankBehind court() {
        TankBehind x = new TankBehind();
        x.person(1);
        x.person(0);
        x.person(-1);
        x.kind(1, 100, 400, 0);
        x.clock(2);
        x.car(0, 2, 0);
        x.clock(6);
        x.crash(0, 4, 1, 50, 3, true, false);
        return x;
    }

    private static long given(TankBehind x, String text) {
        Expect.tell(x, text, x.count(0));
        return x.jury(0);
    }

    private static void jury() {
        TankBehind x = court();
        x.crash(0, 6, 1, 50, 3, false, false);
        Expect.due("without a rule", x.jury(0), 0);
        Expect.due("no crash", x.jury(2), -1);
        Expect.due("crash -1", x.jury(-1), -1);
        Expect.due("not seen to burn", x.jury(1), -1);
        Expect.due("without give", given(x, "most 5"), 0);
        Expect.due("give", given(x, "give 100000000"), 0);
        Expect.due("give below 0", given(x, "give 5-6"), 0);
        Expect.due("the first true one", given(x, "give 1 if speed=51; give 2 if speed=50; give 3"), 2);
        Expect.due("none true", given(x, "give 1 if speed=51"), 0);
        x.clock(7);
        Expect.due("in force in another month", x.jury(0), 0);
        Expect.due("great", given(x, "give 99999*99999*999"), 99999L * 99999L * 999L);
        Expect.tell(x, "give 8", 8);
        Expect.due("a rule not in force yet", x.jury(0), 99999L * 99999L * 999L);
        x.clock(8);
        Expect.due("in force now", x.jury(0), 8);
    }

    private static void juryAboveMost() {
        Expect.due("below most", given(court(), "give 7; most 8"), 7);
        Expect.due("above most", given(court(), "most 8; give 9"), 8);
        Expect.due("most below 0", given(court(), "give 9; most 0-8"), 0);
        Expect.due("most not told", given(court(), "give 9; most 8 if dead=4"), 9);
        Expect.due("the first most", given(court(), "give 9; most 8 if dead=4; most 5; most 3"), 5);
        Expect.due("give below 0", given(court(), "give 0-9; most 5"), 0);
    }

    private static void juryWords() {
        Expect.due("dead", given(court(), "give dead"), 3);
        Expect.due("speed", given(court(), "give speed"), 50);
        Expect.due("sort", given(court(), "give sort"), 1);
        Expect.due("month is now", given(court(), "give month"), 6);
        Expect.due("made of the car", given(court(), "give made"), 2);
        Expect.due("kind", given(court(), "give kind+1"), 1);
        Expect.due("firm", given(court(), "give firm"), 1);
        Expect.due("cars", given(court(), "give cars"), 1);
        Expect.due("fires", given(court(), "give fires"), 1);
        Expect.due("deaths", given(court(), "give deaths"), 3);
        Expect.due("words of most", given(court(), "give 99999; most dead*10+sort"), 31);
        Expect.due("words of a crash are 0 in recall", court().owed(0, 6), 0);
        TankBehind x = court();
        Expect.tell(x, "recall if dead+speed+sort+part+knew > 0; give 1", 6);
        x.jury(0);
        Expect.due("also behind a jury", x.owed(0, 6), 0);
        TankBehind y = court();
        y.clock(8);
        y.crash(0, 8, 1, 50, 2, true, false);
        Expect.due("fires and deaths known now", given(y, "give fires*10+deaths"), 25);
    }

    private static void juryKnew() {
        TankBehind x = court();
        x.clock(7);
        x.test(0, 1, 45, true);
        Expect.tell(x, "give knew+1; crash 1 45", 7);
        x.reads(0, 0);
        Expect.due("known behind the crash", x.jury(0), 1);
        x.crash(0, 7, 1, 50, 0, true, false);
        Expect.due("known in its month", x.jury(1), 2);
        x.clock(9);
        x.crash(0, 9, 1, 50, 0, true, false);
        x.crash(0, 9, 0, 50, 0, true, false);
        Expect.due("known ahead of it", x.jury(2), 2);
        Expect.due("of another sort", x.jury(3), 1);
    }

    private static void juryKnewOthers() {
        TankBehind x = court();
        x.clock(7);
        x.test(0, 1, 45, true);
        x.test(0, 1, 46, true);
        x.test(0, 1, 40, false);
        Expect.tell(x, "crash 1 45; give knew+1", 7);
        x.crash(0, 7, 1, 50, 0, true, false);
        x.reads(0, 1);
        x.reads(0, 2);
        x.reads(1, 0);
        x.reads(2, 0);
        Expect.due("not one of its firm", x.jury(1), 1);
        x.person(1);
        x.reads(0, 3);
        Expect.due("another of its firm", x.jury(1), 2);
    }

    private static void juryPart() {
        TankBehind x = court();
        Expect.tell(x, "give part+1", 6);
        Expect.due("no parts", x.jury(0), 1);
        x.part(30, 9999, 2099, 9999);
        Expect.due("none that helps", x.jury(0), 1);
        x.part(70, 0, 2100, 0);
        Expect.due("one that helps", x.jury(0), 71);
        x.part(50, 0, 2100, 0);
        Expect.due("the least coins", x.jury(0), 51);
        x.part(60, 0, 9999, 0);
        Expect.due("still the least", x.jury(0), 51);
        x.fit(0, 0, 2);
        Expect.due("beside what it had when made", x.jury(0), 51);
        x.part(20, 0, 1, 0);
        Expect.due("together with that", x.jury(0), 21);
        x.fit(0, 1, 2);
        Expect.due("would not have burned as it was", x.jury(0), 21);
        x.part(5, 0, 0, 0);
        Expect.due("nor with any part", x.jury(0), 6);
    }

    private static void juryPartWithMending() {
        TankBehind x = court();
        x.part(30, 0, 2000, 0);
        x.part(40, 0, 100, 0);
        x.part(50, 0, 2100, 0);
        x.call(0, 0, 5, 0);
        x.letters(0);
        x.mend(0, 0);
        x.crash(0, 6, 1, 50, 0, true, false);
        Expect.tell(x, "give part", 6);
        Expect.due("mended behind the crash", x.jury(0), 50);
        Expect.due("mended by then", x.jury(1), 40);
    }

    private static void juryAtItsEdges() {
        Expect.due("give 0", given(court(), "give 0"), 0);
        Expect.due("give 1", given(court(), "give 1"), 1);
        Expect.due("just most", given(court(), "give 8; most 8"), 8);
        Expect.due("most 0", given(court(), "give 8; most 0"), 0);
        Expect.due("most 1", given(court(), "give 8; most 1"), 1);
        Expect.due("both below 0", given(court(), "give 0-8; most 0-9"), 0);
        Expect.due("most alone", given(court(), "most 9"), 0);
        Expect.due("2 to the 62nd", given(court(), "give 65536*65536*65536*16384"), 1L << 62);
        Expect.due("one less than 2 to the 63rd", given(court(), "give 65536*65536*65536*32768-1"), Long.MAX_VALUE);
        Expect.due("2 to the 63rd goes round below 0", given(court(), "give 65536*65536*65536*32768"), 0);
        Expect.due("most of 2 to the 63rd is 0", given(court(), "give 5; most 65536*65536*65536*32768"), 0);
        TankBehind x = court();
        for (int n : new int[] {-1, 1, 200, Integer.MIN_VALUE, Integer.MAX_VALUE}) {
            Expect.due("jury(" + n + ")", x.jury(n), -1);
        }
        Expect.tell(x, "give 7", 6);
        Expect.tell(x, "give 8", 7);
        Expect.due("the rule of now", x.jury(0), 7);
        x.clock(7);
        Expect.due("the rule of now", x.jury(0), 8);
        x.clock(599);
        Expect.due("in the last month", given(x, "give month"), 599);
    }

    /** Person 0 is of another firm, part 0 the cheapest, and car 0 not the one that crashed. */
    private static void juryAndTheFirst() {
        TankBehind x = new TankBehind();
        x.person(0);
        x.person(1);
        x.person(-1);
        x.kind(0, 0, 0, 0);
        x.kind(1, 0, 0, 0);
        x.part(1, 99, 9999, 9999);
        x.part(4, 9999, 9999, 9999);
        x.part(3, 101, 9999, 9999);
        x.part(5, 100, 9999, 9999);
        x.car(0, 0, 0);
        x.car(1, 0, 0);
        x.test(1, 0, 9, true);
        Expect.tell(x, "crash 0 9; give knew*1000+part; most 9999", 0);
        x.reads(0, 0);
        x.reads(0, 2);
        x.crash(1, 0, 0, 10, 0, true, false);
        Expect.due("none of its firm knew, the third part", x.jury(0), 3);
        x.reads(0, 1);
        Expect.due("one of its firm knew", x.jury(0), 1003);
        x.part(2, 100, 0, 0);
        Expect.due("just as much as the force", x.jury(0), 1002);
        x.crash(0, 0, 0, 10, 0, true, false);
        Expect.due("of the other kind and firm", x.jury(1), 2);
        x.crash(1, 0, 1, 10, 0, true, false);
        Expect.due("the first part, of another sort", x.jury(2), 1);
    }

    private static void savers() {
        TankBehind x = new TankBehind();
        Expect.due("coins -1", x.saver(-1, 0), -1);
        Expect.due("coins 100000", x.saver(100000, 0), -1);
        Expect.due("lives -1", x.saver(0, -1), -1);
        Expect.due("lives 1000", x.saver(0, 1000), -1);
        for (int i = 0; i < 9; i++) {
            Expect.due("saver", x.saver(99999, 999), i);
        }
        Expect.due("a saver too many", x.saver(0, 0), -1);
        Expect.due("all of them", x.best(999999), 9 * 999);
        Expect.due("the set", x.bests(0), 511);
        Expect.due("its coins", x.bests(1), 9 * 99999);
    }

    private static void overlaps() {
        TankBehind x = new TankBehind();
        Expect.due("without savers", x.overlap(0, 1, 5), -1);
        x.saver(1, 10);
        x.saver(1, 10);
        x.saver(1, 10);
        Expect.due("first", x.overlap(0, 2, 5), 0);
        Expect.due("once more", x.overlap(0, 2, 4), 5);
        Expect.due("the other way round", x.overlap(2, 0, 999), 4);
        Expect.due("of others", x.overlap(1, 2, 0), 0);
        Expect.due("both one", x.overlap(1, 1, 5), -1);
        Expect.due("saver 3", x.overlap(0, 3, 5), -1);
        Expect.due("saver -1", x.overlap(-1, 0, 5), -1);
        Expect.due("lives 1000", x.overlap(0, 2, 1000), -1);
        Expect.due("lives -1", x.overlap(0, 2, -1), -1);
        Expect.due("nothing happened", x.overlap(0, 2, 3), 999);
    }

    private static void best() {
        TankBehind x = new TankBehind();
        Expect.due("ahead of any, set", x.bests(0), -1);
        Expect.due("ahead of any, coins", x.bests(1), -1);
        Expect.due("best(-1)", x.best(-1), -1);
        Expect.due("still none", x.bests(0), -1);
        Expect.due("without savers", x.best(5), 0);
        Expect.due("the empty set", x.bests(0), 0);
        x.saver(10, 5);
        x.saver(10, 5);
        x.saver(8, 5);
        x.saver(0, 0);
        Expect.due("the least coins", x.best(10), 5);
        Expect.due("its set", x.bests(0), 4);
        Expect.due("its coins", x.bests(1), 8);
        Expect.due("just its coins", x.best(18), 10);
        Expect.due("the least number", x.bests(0), 5);
        Expect.due("one coin less", x.best(17), 5);
        Expect.due("its set", x.bests(0), 4);
        Expect.due("best(1000000)", x.best(1000000), -1);
        Expect.due("best of the least number", x.best(Integer.MIN_VALUE), -1);
        Expect.due("best of the greatest number", x.best(Integer.MAX_VALUE), -1);
        Expect.due("still the last", x.bests(0), 4);
        Expect.due("another what", x.bests(2), -1);
        Expect.due("what -1", x.bests(-1), -1);
        x.overlap(0, 1, 2);
        x.overlap(0, 2, 6);
        x.overlap(1, 2, 6);
        Expect.due("less the overlaps", x.best(999999), 8);
        Expect.due("its set", x.bests(0), 3);
        Expect.due("none for nothing", x.best(0), 0);
        Expect.due("the empty set", x.bests(0), 0);
        x.saver(1, 1);
        Expect.due("kept until the next best", x.bests(0), 0);
    }

    private static void bestByTrial() {
        int seed = 11;
        for (int n = 0; n < 60; n++) {
            TankBehind x = new TankBehind();
            int count = 1 + n % 9;
            int[] coins = new int[count];
            int[] lives = new int[count];
            int[][] shared = new int[count][count];
            for (int i = 0; i < count; i++) {
                seed = seed * 1103515245 + 12345;
                coins[i] = (seed >>> 16) % 4;
                lives[i] = (seed >>> 20) % 5;
                x.saver(coins[i], lives[i]);
                for (int j = 0; j < i; j++) {
                    seed = seed * 1103515245 + 12345;
                    shared[i][j] = Math.max(0, (seed >>> 16) % 5 - 2);
                    x.overlap(j, i, shared[i][j]);
                }
            }
            for (int most = 0; most < 20; most += 3) {
                long want = Long.MIN_VALUE;
                for (int set = 0; set < 1 << count; set++) {
                    int cost = 0;
                    int saved = 0;
                    for (int i = 0; i < count; i++) {
                        for (int j = 0; j < i; j++) {
                            saved -= (set >> i & set >> j & 1) * shared[i][j];
                        }
                        cost += (set >> i & 1) * coins[i];
                        saved += (set >> i & 1) * lives[i];
                    }
                    if (cost <= most) {
                        want = Math.max(want, (saved * 1000L + 999 - cost) * 512L + 511 - set);
                    }
                }
                String call = "savers " + n + ".best(" + most + ")";
                Expect.due(call, x.best(most), want / 512 / 1000);
                Expect.due(call + " set", x.bests(0), 511 - want % 512);
                Expect.due(call + " coins", x.bests(1), 999 - want / 512 % 1000);
            }
        }
    }

    private static void counts() {
        TankBehind x = new TankBehind();
        x.clock(21);
        for (int i = 0; i < 2; i++) {
            x.person(0);
        }
        for (int i = 0; i < 3; i++) {
            x.kind(0, 0, 0, 0);
        }
        for (int i = 0; i < 4; i++) {
            x.part(0, 0, 0, 0);
        }
        for (int i = 0; i < 5; i++) {
            x.car(0, 0, 0);
        }
        for (int i = 0; i < 6; i++) {
            Expect.tell(x, "give 1", 30);
        }
        for (int i = 0; i < 7; i++) {
            x.test(0, 0, 0, true);
        }
        for (int i = 0; i < 8; i++) {
            x.crash(0, 0, 0, 0, 0, true, false);
        }
        for (int i = 0; i < 9; i++) {
            x.memo(0);
        }
        for (int i = 0; i < 10; i++) {
            x.step(0, 0, 0, 0);
        }
        for (int i = 0; i < 11; i++) {
            x.call(0, 0, 0, 0);
        }
        x.saver(0, 0);
        Expect.write(x, "twelve bytes");
        int[] want = {21, 2, 3, 4, 5, 6, 7, 8, 9, 10, 11, 12};
        for (int what = 0; what < 12; what++) {
            Expect.due("count(" + what + ")", x.count(what), want[what]);
        }
        Expect.due("count(12)", x.count(12), -1);
        Expect.due("count(-1)", x.count(-1), -1);
    }
}
