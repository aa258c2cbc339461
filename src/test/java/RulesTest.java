import java.util.List;

/** Promises 14 to 20: the tape, rules and their faults, which is in force, must, fails and owed. */
public final class RulesTest {
    private RulesTest() {
    }

    public static void main(String[] args) {
        tape();
        tellingRules();
        inForce();
        must();
        sums();
        tests();
        wordsOfAKind();
        fails();
        owed();
        faultsOfPlace();
        faultsOfNumbers();
        faultsOfDepth();
        faultsOfCount();
        faultsOfClauses();
        faultsAheadOfOthers();
        whatMayStand();
        bytesBehindTheEnd();
        fullTapes();
        mustAtItsEdges();
        signsWithNot();
        Expect.finish("RulesTest");
    }

    private static void tape() {
        TankBehind x = new TankBehind();
        Expect.due("end(1) of none", x.end(1), -1);
        Expect.due("end(0) of none", x.end(0), 0);
        for (int i = 1; i <= 20; i++) {
            Expect.due("feed", x.feed(-1, 0, 1, 2, 3), 20 * i);
        }
        Expect.due("a feed too many", x.feed(0, 0, 0, 0, 0), -1);
        Expect.due("bytes", x.count(11), 400);
        Expect.due("end(-1)", x.end(-1), -1);
        Expect.due("end(401)", x.end(401), -1);
        Expect.due("end(400)", x.end(400), 400);
        Expect.due("end(381)", x.end(381), 381);
        Expect.due("end(382)", x.end(382), -1);
        Expect.due("feed to 401", x.feed(0, 0, 0, 0, 0), -1);
        Expect.due("bytes", x.count(11), 381);
        Expect.due("end(0)", x.end(0), 0);
        // The first byte of a number is its highest: "give", " 123".
        x.feed(0x67697665, 0x20313233, 0, 0, 0);
        x.end(8);
        Expect.due("rule of fed numbers", x.rule(0), 0);
        Expect.write(x, "give ");
        Expect.write(x, "5");
        Expect.due("a rule of two pieces", x.rule(0), 1);
    }

    private static void tellingRules() {
        TankBehind x = new TankBehind();
        x.clock(5);
        Expect.due("empty tape", x.rule(5), Expect.fault(0, 0));
        Expect.write(x, "give 1");
        Expect.due("rule(4) ahead of now", x.rule(4), -1);
        Expect.due("rule(600)", x.rule(600), -1);
        Expect.due("rule(-1)", x.rule(-1), -1);
        Expect.due("the tape is kept", x.count(11), 6);
        Expect.due("rules", x.count(5), 0);
        Expect.due("rule(5)", x.rule(5), 0);
        Expect.due("the tape is empty", x.count(11), 0);
        Expect.due("a fault", Expect.tell(x, "give ?", 5), Expect.fault(5, 0));
        Expect.due("the tape is empty after a fault", x.count(11), 0);
        Expect.due("rules", x.count(5), 1);
        for (int i = 1; i < 10; i++) {
            Expect.due("rule", Expect.tell(x, "give 1", 599), i);
        }
        Expect.due("a rule too many", Expect.tell(x, "give ?", 599), -1);
        Expect.due("the tape is kept", x.count(11), 6);
        Expect.due("rules", x.count(5), 10);
    }

    private static void inForce() {
        TankBehind x = new TankBehind();
        Expect.due("none", x.inForce(0), -1);
        Expect.tell(x, "give 1", 10);
        Expect.tell(x, "give 1", 20);
        Expect.tell(x, "give 1", 10);
        Expect.tell(x, "give 1", 15);
        Expect.due("inForce(9)", x.inForce(9), -1);
        Expect.due("inForce(10), of two the last told", x.inForce(10), 2);
        Expect.due("inForce(14)", x.inForce(14), 2);
        Expect.due("inForce(15)", x.inForce(15), 3);
        Expect.due("inForce(20)", x.inForce(20), 1);
        Expect.due("inForce(599)", x.inForce(599), 1);
        Expect.due("inForce(600)", x.inForce(600), -1);
        Expect.due("inForce(-1)", x.inForce(-1), -1);
    }

    private static void must() {
        TankBehind x = new TankBehind();
        x.kind(2, 1, 1, 1);
        Expect.tell(x, "crash 0 30 if made < 3; crash 0 40; crash 0 50; crash 2 0 - 5; crash 1 300", 1);
        Expect.due("no rule in force", x.must(0, 0, 0), -1);
        Expect.due("the first true clause", x.must(0, 0, 2), 30);
        Expect.due("the next without a test", x.must(0, 0, 3), 40);
        Expect.due("held to 200", x.must(0, 1, 599), 200);
        Expect.due("held to 0", x.must(0, 2, 599), 0);
        Expect.due("no kind", x.must(1, 0, 1), -2);
        Expect.due("kind -1", x.must(-1, 0, 1), -2);
        Expect.due("no sort", x.must(0, 3, 1), -2);
        Expect.due("sort -1", x.must(0, -1, 1), -2);
        Expect.due("no month", x.must(0, 0, 600), -2);
        Expect.due("month -1", x.must(0, 0, -1), -2);
        Expect.tell(x, "crash 1 7 if month = 9", 9);
        Expect.due("of the rule in force alone", x.must(0, 0, 9), -1);
        Expect.due("its test true", x.must(0, 1, 9), 7);
        Expect.due("its test false", x.must(0, 1, 10), -1);
    }

    private static int sum(String text) {
        TankBehind x = new TankBehind();
        x.kind(0, 0, 0, 0);
        Expect.due("rule of " + text, Expect.tell(x, "crash 00001 " + text, 0), 0);
        return x.must(0, 1, 7);
    }

    private static void sums() {
        Expect.due("2+3*4", sum("2+3*4"), 14);
        Expect.due("( 2 + 3 ) * 4", sum("( 2 + 3 ) * 4"), 20);
        Expect.due("20-5-3", sum("20-5-3"), 12);
        Expect.due("20-(5-3)", sum("20-(5-3)"), 18);
        Expect.due("20-2*3+1", sum("20-2*3+1"), 15);
        Expect.due("00012", sum("00012"), 12);
        Expect.due("month*month", sum("month*month"), 49);
        Expect.due("99999-99900", sum("99999-99900"), 99);
        // 92682 * 92682 * 32768 * 32768 is above 2 to the 63rd and goes round below 0.
        Expect.due("going round below 0", sum("92682*92682*32768*32768"), 0);
        // 65536 to the fourth is 0 with 64 bits.
        Expect.due("going round to 0", sum("65536*65536*65536*65536+5"), 5);
        Expect.due("words of a crash are 0", sum("5+dead+speed+sort+knew+part"), 5);
    }

    private static int test(String text) {
        TankBehind x = new TankBehind();
        x.kind(0, 0, 0, 0);
        Expect.due("rule of " + text, Expect.tell(x, "crash 0 1 if " + text, 0), 0);
        return x.must(0, 0, 3) == 1 ? 1 : 0;
    }

    private static void tests() {
        Expect.due("2<3", test("2<3"), 1);
        Expect.due("3<3", test("3<3"), 0);
        Expect.due("3<=3", test("3<=3"), 1);
        Expect.due("4<=3", test("4<=3"), 0);
        Expect.due("3=3", test("3=3"), 1);
        Expect.due("3=4", test("3=4"), 0);
        Expect.due("3>=3", test("3>=3"), 1);
        Expect.due("2>=3", test("2>=3"), 0);
        Expect.due("4>3", test("4>3"), 1);
        Expect.due("3>3", test("3>3"), 0);
        Expect.due("0-1<0", test("0-1<0"), 1);
        Expect.due("not 3=3", test("not 3=3"), 0);
        Expect.due("not not 3=3", test("not not 3=3"), 1);
        Expect.due("and binds before or", test("1=1 or 1=1 and 1=2"), 1);
        Expect.due("and binds before or", test("1=2 and 1=1 or 1=1"), 1);
        Expect.due("brackets", test("[1=1 or 1=1] and 1=2"), 0);
        Expect.due("not of a fact alone", test("not 1=2 and 1=2"), 0);
        Expect.due("not of brackets", test("not [1=2 and 1=2]"), 1);
        Expect.due("three ors", test("1=2 or 1=3 or 1=1"), 1);
        Expect.due("three ands", test("1=1 and 2=2 and 1=3"), 0);
        Expect.due("no blanks", test("not[(1)=1]or(month)=3and 1=1"), 1);
    }

    private static void wordsOfAKind() {
        TankBehind x = new TankBehind();
        x.person(0);
        x.kind(1, 0, 0, 0);
        x.kind(3, 0, 0, 0);
        Expect.tell(x, "crash 0 kind*100+firm*10+made; crash 1 cars*10+fires; crash 2 deaths+dead", 0);
        Expect.due("kind, firm, made", x.must(1, 0, 9), 139);
        Expect.due("kind, firm, made of another", x.must(0, 0, 5), 15);
        x.clock(2);
        x.car(0, 0, 0);
        x.car(1, 0, 0);
        x.clock(4);
        x.car(0, 1, 0);
        x.crash(0, 1, 0, 1, 3, true, false);
        x.crash(0, 1, 0, 1, 9, false, false);
        x.clock(6);
        x.crash(2, 1, 0, 1, 4, true, false);
        x.crash(1, 1, 0, 1, 5, true, false);
        Expect.due("cars not known yet", x.must(0, 1, 1), 0);
        Expect.due("cars known by 2", x.must(0, 1, 2), 10);
        Expect.due("cars and fires known by 3", x.must(0, 1, 3), 10);
        Expect.due("cars and fires known by 4", x.must(0, 1, 4), 21);
        Expect.due("cars and fires known by 6", x.must(0, 1, 6), 22);
        Expect.due("cars and fires known by 599", x.must(0, 1, 599), 22);
        Expect.due("those of the other kind", x.must(1, 1, 599), 11);
        Expect.due("deaths known by 3", x.must(0, 2, 3), 0);
        Expect.due("deaths known by 4", x.must(0, 2, 4), 3);
        Expect.due("deaths known by 6", x.must(0, 2, 6), 7);
        Expect.due("deaths of the other kind", x.must(1, 2, 6), 5);
        TankBehind y = new TankBehind();
        y.person(0);
        y.kind(0, 0, 0, 0);
        y.car(0, 0, 0);
        Expect.tell(y, "crash 0 cars + 1", 0);
        Expect.due("known in month 0 by 0", y.must(0, 0, 0), 2);
        Expect.due("known in month 0 by 1", y.must(0, 0, 1), 2);
    }

    private static void fails() {
        TankBehind x = new TankBehind();
        x.kind(0, 100, 0, 0);
        x.part(1, 300, 0, 0);
        x.fit(0, 0, 5);
        Expect.due("without a rule", x.fails(0, 0, 1), 0);
        Expect.tell(x, "crash 0 month + 7", 0);
        Expect.due("borne", x.fails(0, 0, 3), 0);
        Expect.due("above", x.fails(0, 0, 4), 1);
        Expect.due("with the part of its month", x.fails(0, 0, 5), 0);
        Expect.due("with the part, borne", x.fails(0, 0, 13), 0);
        Expect.due("with the part, above", x.fails(0, 0, 14), 1);
        Expect.due("without must", x.fails(0, 1, 4), 0);
        Expect.due("no kind", x.fails(1, 0, 4), -1);
        Expect.due("no sort", x.fails(0, 3, 4), -1);
        Expect.due("no month", x.fails(0, 0, 600), -1);
        Expect.due("month -1", x.fails(0, 0, -1), -1);
        x.factor(0, 90);
        Expect.due("with another factor", x.fails(0, 0, 3), 0);
        x.factor(0, 102);
        Expect.due("with a greater factor", x.fails(0, 0, 3), 1);
        x.person(0);
        x.part(1, 9999, 0, 0);
        x.clock(4);
        x.car(0, 4, 0);
        x.call(0, 0, 599, 1);
        x.letters(0);
        x.mend(0, 0);
        Expect.due("the car mended does not burn", x.burns(0, 4, 0, 11, -1), 0);
        Expect.due("a car of its kind and month does, unmended", x.fails(0, 0, 4), 1);
    }

    private static void owed() {
        TankBehind x = new TankBehind();
        x.kind(0, 0, 0, 0);
        x.kind(2, 0, 0, 0);
        Expect.due("without a rule", x.owed(0, 0), 0);
        Expect.tell(x, "recall if month = 3; recall if kind = 1 and made = 0; recall if firm = 1", 0);
        Expect.due("no clause", x.owed(0, 2), 0);
        Expect.due("the first clause", x.owed(0, 3), 1);
        Expect.due("made is 0", x.owed(1, 7), 1);
        Expect.tell(x, "give 1", 9);
        Expect.due("by the rule in force", x.owed(1, 9), 0);
        Expect.due("no kind", x.owed(2, 0), -1);
        Expect.due("kind -1", x.owed(-1, 0), -1);
        Expect.due("no month", x.owed(0, 600), -1);
        Expect.due("month -1", x.owed(0, -1), -1);
        TankBehind y = new TankBehind();
        y.person(0);
        y.kind(0, 0, 0, 0);
        Expect.tell(y, "recall if fires > 1 or cars > 2 or deaths > 8", 0);
        y.car(0, 0, 0);
        y.crash(0, 0, 0, 1, 8, true, false);
        Expect.due("one car, one fire, 8 dead", y.owed(0, 0), 0);
        y.crash(0, 0, 0, 1, 0, false, false);
        Expect.due("and a crash that did not burn", y.owed(0, 0), 0);
        y.clock(3);
        y.crash(0, 0, 0, 1, 0, true, false);
        Expect.due("a second fire", y.owed(0, 3), 1);
        Expect.due("not known by 2", y.owed(0, 2), 0);
    }

    private static void refused(String text, int place, int code) {
        TankBehind x = new TankBehind();
        Expect.due("rule \"" + text + "\"", Expect.tell(x, text, 0), Expect.fault(place, code));
        Expect.due("rules after it", x.count(5), 0);
    }

    private static void taken(String text) {
        TankBehind x = new TankBehind();
        Expect.due("rule \"" + text + "\"", Expect.tell(x, text, 0), 0);
    }

    private static void faultsOfPlace() {
        refused("", 0, 0);
        refused("  ", 2, 0);
        refused("give", 4, 0);
        refused("give  ", 6, 0);
        refused("giv 5", 0, 0);
        refused("Give 5", 0, 0);
        refused(" gives 5", 1, 0);
        refused("givez 5", 0, 0);
        refused("give 5\u0000", 6, 0);
        refused("5", 0, 0);
        refused("month", 0, 0);
        refused("if", 0, 0);
        refused("crash", 5, 0);
        refused("crash x 5", 6, 0);
        refused("crash (1) 5", 6, 0);
        refused("crash 1", 7, 0);
        refused("crash 1 if 1=1", 8, 0);
        refused("recall", 6, 0);
        refused("recall 5", 7, 0);
        refused("recall if", 9, 0);
        refused("give 5 5", 7, 0);
        refused("give 5 123456", 7, 0);
        refused("give 5 month", 7, 0);
        refused("give 5 or 1=1", 7, 0);
        refused("give 5;", 7, 0);
        refused("give 5;;", 7, 0);
        refused("give foo", 5, 0);
        refused("give months", 5, 0);
        refused("give mont", 5, 0);
        refused("give if", 5, 0);
        refused("give not", 5, 0);
        refused("give -5", 5, 0);
        refused("give 5+", 7, 0);
        refused("give 5*+5", 7, 0);
        refused("give (5", 7, 0);
        refused("give ()", 6, 0);
        refused("give (5=5)", 7, 0);
        refused("give 5)", 6, 0);
        refused("give [5]", 5, 0);
        refused("give 5 if 5", 11, 0);
        refused("give 5 if 5 and 5=5", 12, 0);
        refused("give 5 if 5=", 12, 0);
        refused("give 5 if 5==5", 12, 0);
        refused("give 5 if 5=<5", 12, 0);
        refused("give 5 if 5< =5", 13, 0);
        refused("give 5 if 5<>5", 12, 0);
        refused("give 5 if 5=5=5", 13, 0);
        refused("give 5 if 5=5 5=5", 14, 0);
        refused("give 5 if 5=5 and", 17, 0);
        refused("give 5 if 5=5 or or", 17, 0);
        refused("give 5 if (5=5)", 12, 0);
        refused("give 5 if [5=5", 14, 0);
        refused("give 5 if [5=5)", 14, 0);
        refused("give 5 if 5=5]", 13, 0);
        refused("give 5 if [5]", 12, 0);
        refused("give 5 if ifs", 10, 0);
        refused("give 5 if not", 13, 0);
        refused("give 5 if 5=5 if 5=5", 14, 0);
        refused("give 5 if not5=5 give", 17, 0);
        refused("give 5,", 6, 0);
        refused("give 5\t", 6, 0);
        refused("give 5\u00e9", 6, 0);
        refused("give \u0000", 5, 0);
        refused("give \u00ff", 5, 0);
        refused("give ?123456", 5, 0);
        taken("give5");
        taken(" give 5 if not5=5 ; most(month)*cars ");
        taken("give 5if 5=5and 5=5or[5<=5]");
    }

    private static void faultsOfNumbers() {
        taken("give 99999");
        taken("crash 2 00000");
        taken("crash 00002 5");
        refused("give 123456", 5, 1);
        refused("give 000001", 5, 1);
        refused("give 99999999999999999999999", 5, 1);
        refused("give 5 + 100000*?", 9, 1);
        refused("crash 3 5", 6, 1);
        refused("crash 12345 5", 6, 1);
        refused("crash 000000 5", 6, 1);
        refused("crash 3", 6, 1);
    }

    private static String repeat(String text, int times) {
        StringBuilder all = new StringBuilder();
        for (int i = 0; i < times; i++) {
            all.append(text);
        }
        return all.toString();
    }

    private static void faultsOfDepth() {
        taken("give " + repeat("(", 10) + "1" + repeat(")", 10));
        refused("give " + repeat("(", 11) + "1" + repeat(")", 11), 15, 2);
        refused("give " + repeat("(", 11), 15, 2);
        taken("give 1 if " + repeat("[", 10) + "1=1" + repeat("]", 10));
        refused("give 1 if " + repeat("[", 11) + "1=1" + repeat("]", 11), 20, 2);
        taken("give 1 if " + repeat("not ", 10) + "1=1");
        refused("give 1 if " + repeat("not ", 11) + "1=1", 50, 2);
        refused("give 1 if " + repeat("not ", 10) + "[1=1]", 50, 2);
        refused("give 1 if " + repeat("not ", 10) + "1=(1)", 52, 2);
        refused("give 1 if " + repeat("not[", 5) + "(1)=1" + repeat("]", 5), 30, 2);
        taken("give 1 if " + repeat("not[", 5) + "1=1" + repeat("]", 5));
        taken("give (1)+(2)+((3)) if not 1=1 and not [1=1] or " + repeat("not ", 9) + "(1)=1");
        taken("give 1 if " + repeat("not ", 10) + "1=1 and " + repeat("not ", 10) + "1=1");
    }

    private static void faultsOfCount() {
        taken("give 1" + repeat("+1", 79));
        refused("give 1" + repeat("+1", 80), 165, 3);
        refused("give 1" + repeat("+1", 79) + "+month", 165, 3);
        refused("give 1" + repeat("+1", 79) + "+(1)", 165, 3);
        refused("give 1" + repeat("+1", 79) + "+123456", 165, 1);
        refused("give 1" + repeat("+1", 79) + "+foo", 165, 0);
        refused("give 1" + repeat("+1", 79) + "+if", 165, 0);
        refused("give (1)" + repeat("+1", 79), 165, 3);
        taken("give (1)" + repeat("+1", 78));
        TankBehind x = new TankBehind();
        for (int i = 0; i < 9; i++) {
            Expect.due("eighty each time", Expect.tell(x, "give 1" + repeat("+1", 79), 0), i);
            Expect.due("a fault between", Expect.tell(x, "give 1" + repeat("+1", 79) + "?", 0), Expect.fault(164, 0));
        }
        x.kind(0, 0, 0, 0);
        Expect.due("eighty once more", Expect.tell(x, "crash 0 2" + repeat("+2", 79), 0), 9);
        Expect.due("their sum", x.must(0, 0, 0), 160);
        // 79 values of the sum and one ahead of the sign: the sign is one too many.
        refused("give 1" + repeat("+1", 78) + " if 1>=1", 167, 3);
        // 77 values of the sum, and one, its sign, and one.
        taken("give 1" + repeat("+1", 76) + " if 1=1");
        refused("give 1" + repeat("+1", 77) + " if 1=1", 6 + 154 + 4 + 2, 3);
        // Counted over all clauses.
        refused("give 1" + repeat("+1", 39) + ";most 1" + repeat("+1", 40), 84 + 6 + 80, 3);
        // Too deep comes ahead of too many at one place.
        refused("give 1" + repeat("+1", 69) + "+" + repeat("(", 11), 5 + 140 + 10, 2);
    }

    private static void faultsOfClauses() {
        String twelve = repeat("give 1;", 11) + "give 1";
        taken(twelve);
        taken(twelve + " if 1=1 ");
        refused(twelve + ";give 1", 84, 4);
        refused(twelve + "; recall ?", 85, 4);
        refused(twelve + ";", 84, 0);
        refused(twelve + "; 5", 85, 0);
        refused(twelve + "; if", 85, 0);
        refused(twelve + "?", 83, 0);
    }

    /** The first fault along the text counts, whatever stands behind it. */
    private static void faultsAheadOfOthers() {
        refused("give ?; ?", 5, 0);
        refused("give 5 * ; ?", 9, 0);
        refused("give 5 + ; give 123456", 9, 0);
        refused("give (; ?", 6, 0);
        refused("give (1; ?", 7, 0);
        refused("give 123456; ?", 5, 1);
        refused("crash 3 5; ?", 6, 1);
        refused("crash 1; ?", 7, 0);
        refused("give 1 if; ?", 9, 0);
        refused("give 1 if 1; ?", 11, 0);
        refused("give 1 if 1=; ?", 12, 0);
        refused("give 1 if 1=1 or; ?", 16, 0);
        refused("give 1 if 1=1 and; ?", 17, 0);
        refused("give 1 if not; ?", 13, 0);
        refused("give 1 if [; ?", 11, 0);
        refused("give 1 if [1=1; ?", 14, 0);
        refused("give 1 if [1=1 or; ?", 17, 0);
        refused("give 1 if not not 1; ?", 19, 0);
        refused("recall; ?", 6, 0);
        refused("recall if; ?", 9, 0);
        refused("give " + repeat("(", 11) + "; ?", 15, 2);
        refused("give 1 if " + repeat("not ", 11) + "; ?", 50, 2);
        refused("give 1" + repeat("+1", 80) + "; ?", 165, 3);
        refused("give 1" + repeat("+1", 80) + "+123456", 165, 3);
        refused("give 1 if 1=1; give ? ; give 1 if ?", 20, 0);
        refused(repeat("give 1;", 12) + "give ?", 84, 4);
    }

    private static final String VALUES =
        "month kind firm made cars fires deaths dead speed sort knew part 7 00000 99999";
    private static final String THINGS = "crash give most recall";
    private static final String SIGNS = "+ - * < <= = >= > ( ) [ ] ; if or and not";
    private static final String OTHERS =
        "foo months mont i an o no recal gives crashes == => << ! # , . : / \\ { } A Z month1 $";

    /** Behind each of these every piece of the language is put, and every byte: only those named may stand there. */
    private static void whatMayStand() {
        String value = VALUES + " (";
        String fact = value + " [ not";
        mayStand("", THINGS);
        mayStand(" ", THINGS);
        mayStand("give 1;", THINGS);
        mayStand("recall if 1=1 ;", THINGS);
        mayStand("crash", "00000 7 99999");
        mayStand("give", value);
        mayStand("most", value);
        mayStand("crash 00002", value);
        mayStand("give (", value);
        mayStand("give 1+", value);
        mayStand("give 1-", value);
        mayStand("give month*", value);
        mayStand("recall if 1<", value);
        mayStand("recall if 1<=", value);
        mayStand("recall if 1=", value);
        mayStand("recall if 1>=", value);
        mayStand("recall if 1>", value);
        mayStand("recall if", fact);
        mayStand("give 1 if", fact);
        mayStand("give 1 if not", fact);
        mayStand("give 1 if [", fact);
        mayStand("give 1 if 1=1 and", fact);
        mayStand("give 1 if 1=1 or", fact);
        mayStand("give 1", "+ - * if ;");
        mayStand("give (1)", "+ - * if ;");
        mayStand("crash 1 month", "+ - * if ;");
        mayStand("give (1", "+ - * )");
        mayStand("give ((1)", "+ - * )");
        mayStand("give 1 if 1", "+ - * < <= = >= >");
        mayStand("give 1 if (1)", "+ - * < <= = >= >");
        mayStand("give 1 if (1", "+ - * )");
        mayStand("give 1 if 1=1", "+ - * and or ;");
        mayStand("give 1 if not 1=1", "+ - * and or ;");
        mayStand("give 1 if [1=1", "+ - * and or ]");
        mayStand("give 1 if [1=(1)", "+ - * and or ]");
        mayStand("give 1 if [not 1=1", "+ - * and or ]");
        mayStand("give 1 if [1=1]", "and or ;");
        mayStand("give 1 if not [1=1]", "and or ;");
        mayStand("give 1 if [[1=1]", "and or ]");
        mayStand("recall", "if");
    }

    private static void mayStand(String before, String pieces) {
        List<String> may = List.of(pieces.split(" "));
        for (String piece : (VALUES + " " + THINGS + " " + SIGNS + " " + OTHERS).split(" ")) {
            // What a word or number holds ahead of what can't stand may stand.
            String first = piece.equals("month1") ? "month" : piece.equals("==") || piece.equals("=>") ? "="
                : piece.equals("<<") ? "<" : piece;
            mayStand(before, piece, may.contains(first));
        }
        for (int sign = 0; sign < 256; sign++) {
            boolean digit = sign >= '0' && sign <= '9';
            boolean begins = digit ? may.contains("00000") : may.contains(String.valueOf((char) sign));
            if (sign != ' ') {
                mayStand(before, String.valueOf((char) sign), begins);
            }
        }
    }

    private static void mayStand(String before, String piece, boolean may) {
        String text = before + " " + piece;
        int place = before.length() + 1;
        TankBehind x = new TankBehind();
        int answer = Expect.tell(x, text, 0);
        if (!may) {
            Expect.due("rule \"" + text + "\"", answer, Expect.fault(place, 0));
        } else if (answer < 0) {
            // A number may stand after crash and be no sort; all else is at fault behind the piece.
            boolean noSort = before.equals("crash") && answer == Expect.fault(place, 1);
            boolean behind = answer <= Expect.fault(place + 1, 0);
            Expect.due("rule \"" + text + "\" is not at fault there", noSort || behind, true);
        }
    }

    private static int ruleOfCut(String text, int length) {
        TankBehind x = new TankBehind();
        Expect.write(x, text);
        Expect.due("end of \"" + text + "\"", x.end(length), length);
        return x.rule(0);
    }

    /** What stood behind the bytes that the tape has is no more. */
    private static void bytesBehindTheEnd() {
        Expect.due("digits cut", ruleOfCut("give 123456", 10), 0);
        Expect.due("a word cut", ruleOfCut("give month", 8), Expect.fault(5, 0));
        Expect.due("a word cut to none", ruleOfCut("give month", 5), Expect.fault(5, 0));
        Expect.due("blanks cut", ruleOfCut("give      5", 6), Expect.fault(6, 0));
        Expect.due("a sign cut", ruleOfCut("give 5 if 1<=1", 12), Expect.fault(12, 0));
        Expect.due("a bracket cut", ruleOfCut("give (5)", 7), Expect.fault(7, 0));
        Expect.due("a fault cut", ruleOfCut("give 5?", 6), 0);
        Expect.due("a clause cut", ruleOfCut("give 5;give 5", 6), 0);
        Expect.due("all but ; cut", ruleOfCut("give 5;give 5", 7), Expect.fault(7, 0));
        TankBehind x = new TankBehind();
        x.kind(0, 0, 0, 0);
        Expect.write(x, "crash 0 123");
        x.end(9);
        x.rule(0);
        Expect.due("one digit of three", x.must(0, 0, 0), 1);
        Expect.write(x, "crash 0 12");
        x.end(9);
        Expect.write(x, "5");
        x.rule(0);
        Expect.due("another digit behind it", x.must(0, 0, 0), 15);
        Expect.tell(x, "crash 0 7 + month + month", 0);
        Expect.due("behind a longer rule", Expect.tell(x, "crash 0 6", 0), 3);
        Expect.due("of the shorter one", x.must(0, 0, 5), 6);
        Expect.due("cut to none", ruleOfCut("give 5", 0), Expect.fault(0, 0));
    }

    private static void fullTapes() {
        taken("give 5" + repeat(" ", 394));
        taken(repeat(" ", 394) + "give 5");
        taken(repeat(" ", 389) + "give month ");
        taken(repeat(" ", 388) + "give (month)");
        taken(repeat(" ", 385) + "give 1 if 1<=12");
        refused(repeat(" ", 400), 400, 0);
        refused(repeat(" ", 399) + "?", 399, 0);
        refused(repeat(" ", 396) + "give", 400, 0);
        refused(repeat(" ", 395) + "crash", 400, 0);
        refused(repeat(" ", 394) + "recall", 400, 0);
        refused(repeat(" ", 393) + "give 5;", 400, 0);
        refused(repeat(" ", 393) + "give 5+", 400, 0);
        refused(repeat(" ", 388) + "give 1 if 1<", 400, 0);
        refused(repeat(" ", 387) + "give 1 if 1<=", 400, 0);
        refused(repeat(" ", 387) + "give 1 if not", 400, 0);
        refused(repeat(" ", 389) + "give 123456", 394, 1);
        refused(repeat(" ", 395) + "givex", 395, 0);
        refused(repeat("?", 400), 0, 0);
    }

    private static void mustAtItsEdges() {
        Expect.due("-1 is held to 0", sum("0-1"), 0);
        Expect.due("0", sum("0"), 0);
        Expect.due("1", sum("1"), 1);
        Expect.due("199", sum("199"), 199);
        Expect.due("200", sum("200"), 200);
        Expect.due("201 is held to 200", sum("201"), 200);
        Expect.due("2 to the 32nd is held to 200", sum("65536*65536"), 200);
        Expect.due("2 to the 32nd and 7 is held to 200", sum("65536*65536+7"), 200);
        Expect.due("-2 to the 32nd and 7 is held to 0", sum("0-65536*65536+7"), 0);
        Expect.due("2 to the 63rd goes round", sum("65536*65536*65536*32768"), 0);
        Expect.due("one less is held to 200", sum("65536*65536*65536*32768-1"), 200);
        TankBehind x = new TankBehind();
        for (int i = 0; i < 8; i++) {
            x.kind(i % 4, 0, 0, 0);
        }
        Expect.tell(x, "crash 2 kind; crash 0 month - 570", 0);
        Expect.due("of the last kind and sort", x.must(7, 2, 0), 7);
        Expect.due("of the last month", x.must(0, 0, 599), 29);
        Expect.due("of month 0", x.must(0, 0, 0), 0);
        Expect.due("none of sort 1", x.must(0, 1, 599), -1);
        int[] none = {-1, 600, Integer.MIN_VALUE, Integer.MAX_VALUE};
        for (int n : none) {
            Expect.due("must(" + n + ", 0, 0)", x.must(n, 0, 0), -2);
            Expect.due("must(0, " + n + ", 0)", x.must(0, n, 0), -2);
            Expect.due("must(0, 0, " + n + ")", x.must(0, 0, n), -2);
            Expect.due("fails(" + n + ", 0, 0)", x.fails(n, 0, 0), -1);
            Expect.due("fails(0, " + n + ", 0)", x.fails(0, n, 0), -1);
            Expect.due("fails(0, 0, " + n + ")", x.fails(0, 0, n), -1);
            Expect.due("owed(" + n + ", 0)", x.owed(n, 0), -1);
            Expect.due("owed(0, " + n + ")", x.owed(0, n), -1);
            Expect.due("inForce(" + n + ")", x.inForce(n), -1);
        }
        Expect.due("kind 8", x.must(8, 0, 0), -2);
        Expect.due("fails at 29 that bears nothing", x.fails(0, 0, 599), 1);
        Expect.due("fails at 0", x.fails(0, 0, 0), 0);
    }

    /** Each sign on both sides of what it tells, alone, denied, and beside one that is true or not. */
    private static void signsWithNot() {
        String[] signs = {"<", "<=", "=", ">=", ">"};
        for (int a = 2; a <= 4; a++) {
            for (int i = 0; i < 5; i++) {
                boolean is = i == 0 ? a < 3 : i == 1 ? a <= 3 : i == 2 ? a == 3 : i == 3 ? a >= 3 : a > 3;
                String fact = a + signs[i] + "3";
                Expect.due(fact, test(fact), is ? 1 : 0);
                Expect.due("not " + fact, test("not " + fact), is ? 0 : 1);
                Expect.due("not not " + fact, test("not not " + fact), is ? 1 : 0);
                Expect.due("not [" + fact + "]", test("not [" + fact + "]"), is ? 0 : 1);
                for (String other : signs) {
                    String pair = " 1" + other + "1";
                    boolean both = other.indexOf('=') >= 0;
                    Expect.due(fact + " and" + pair, test(fact + " and" + pair), is && both ? 1 : 0);
                    Expect.due(fact + " or" + pair, test(fact + " or" + pair), is || both ? 1 : 0);
                }
            }
        }
    }
}
