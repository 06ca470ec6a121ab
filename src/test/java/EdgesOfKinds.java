/** Edges that KINDS names. */
final class EdgesOfKinds {
    private static final String REST = "each CELL's STIFF is MORE times (WARM and 1) less (0 at least)";
    private static final String PULL = "DRAWN by all LENGTH times MORE by 10, at PACE";
    private static final String BOUNCE =
        "then all LENGTHS at once: (twice its own, and those of both neighbours, its own where there is none) by 4";
    private static final String FOLD = "all CELLS at once: of CELL c, by a: c by 2, and b: 11 less a";
    private static final String FOLD_LENGTH = "LENGTH: (LENGTH of a and b) by 4 (1 at least)";
    private static final String STICKS =
        "then FREE times (100 less sticks of THE LAW for CELL 0, 0 .. 100, else the bound) by 100";
    private static final String DUSTING = "DUST MORE more (99 at most)";
    private static final String CUT_OFF = "MUCH times MORE by 10 is cut off (CUT is that more; MUCH 1 at least)";
    private static final String CUT_LENGTH = "LENGTH is LENGTH times MORE by 10 less (1 at least)";

    private EdgesOfKinds() {
    }

    @Edge(of = "KINDS", says = "KINDS: what a STEP makes")
    static void theFirstAndTheLastKind(Due due) {
        due.is("step(0, 1, 1)", 0);
        due.is("step(5, 1, 1)", 1);
        due.is("step(-1, 1, 1)", -2);
        due.is("step(6, 1, 1)", -2);
        due.is("count(3)", 2);
    }

    @Edge(of = "KINDS", says = "how many tenths of a minute it TAKES")
    static void noStepTakesNothingButARestOfNone(Due due) {
        due.steps("0, 0, 9", "1, 0, 9", "2, 0, 9", "3, 0, 9", "4, 0, 9", "5, 0, 9");
        int[] takes = {0, 1, 3, 3, 1, 3};
        for (int s = 0; s < 6; s++) {
            due.is("stepTold(" + s + ", 3)", takes[s]);
        }
    }

    // ---- a STEP

    /** All is STIFF 42, then a rest. */
    private static void rested(Due due, int warm, int more, int stiff) {
        due.ask("set(2, " + warm + ")");
        due.steps("1, 9, 9", "0, " + more + ", 1");
        due.all(1, 2, 42);
        due.all(2, 2, stiff);
        due.all(2, 1, 190);
    }

    @Edge(of = "KINDS", says = REST)
    static void aRestOfNone(Due due) {
        rested(due, 5, 0, 42);
    }

    @Edge(of = "KINDS", says = REST)
    static void aRestThatLeavesSome(Due due) {
        rested(due, 5, 6, 6);
    }

    @Edge(of = "KINDS", says = REST)
    static void aRestThatTakesAll(Due due) {
        rested(due, 5, 7, 0);
    }

    @Edge(of = "KINDS", says = REST)
    static void aRestThatWouldTakeMore(Due due) {
        rested(due, 5, 8, 0);
    }

    @Edge(of = "KINDS", says = REST)
    static void aRestWhereItIsCold(Due due) {
        rested(due, 0, 9, 33);
    }

    @Edge(of = "KINDS", says = REST)
    static void aRestWhereItIsWarmest(Due due) {
        rested(due, 9, 4, 2);
    }

    @Edge(of = "KINDS", says = REST)
    static void aRestOfWhatIsNotStiff(Due due) {
        due.steps("0, 9, 1", "1, 9, 9");
        due.all(1, 2, 0);
        due.all(2, 2, 42);
    }

    @Edge(of = "KINDS", says = "10 times MORE")
    static void howLongARestTakes(Due due) {
        due.steps("0, 0, 1", "0, 9, 9");
        due.is("stepTold(0, 3)", 0);
        due.is("stepTold(1, 3)", 90);
    }

    // ---- a PULL

    @Edge(of = "KINDS", says = PULL)
    static void aPullByNothing(Due due) {
        due.law("1", "7", "0");
        due.steps("1, 0, 9");
        due.all(1, 1, 100);
        due.all(1, 2, 0);
        // it is drawn, so it tears
        due.is("whole(1, 0)", 418596295);
    }

    @Edge(of = "KINDS", says = PULL)
    static void aPullByMost(Due due) {
        due.steps("1, 9, 9");
        due.all(1, 1, 190);
        due.all(1, 2, 42);
    }

    @Edge(of = "KINDS", says = PULL)
    static void aPullThatIsCut(Due due) {
        // 1209 by 10 is 120, 10 for each
        due.is("roll(11, 1, 109)", 100);
        due.steps("1, 1, 1");
        due.row(1, 1, 110, 110, 110, 110, 110, 110, 110, 110, 110, 110, 110, 119);
    }

    @Edge(of = "KINDS", says = PULL)
    static void aPullThatIsCutToTheLeast(Due due) {
        // 12 by 10
        due.rollAll(1, 1);
        due.steps("1, 1, 1");
        due.is("state(1, 4)", 13);
    }

    @Edge(of = "KINDS", says = "10 less PACE")
    static void howLongAPullTakes(Due due) {
        due.steps("1, 9, 1", "1, 0, 9");
        due.is("stepTold(0, 3)", 9);
        due.is("stepTold(1, 3)", 1);
    }

    // ---- a BOUNCE

    @Edge(of = "KINDS", says = "2 BOUNCE (a PULL): as a PULL")
    static void aBounceOfOneLengthIsAPull(Due due) {
        due.steps("2, 9, 9");
        due.all(1, 1, 190);
        due.all(1, 2, 42);
    }

    @Edge(of = "KINDS", says = "2 BOUNCE (a PULL): as a PULL")
    static void aBounceTearsAsAPullDoes(Due due) {
        due.law("1", "(thick = 200) * 10", "0");
        due.is("roll(4, 1, 300)", 100);
        due.steps("2, 0, 3");
        // ahead of its end, where THICK is 300
        due.is("whole(1, 0)", 900000000);
        due.is("rope(1, 4, 0)", 300);
    }

    @Edge(of = "KINDS", says = BOUNCE)
    static void theEndsOfABounce(Due due) {
        due.is("roll(0, 1, 200)", 100);
        due.is("roll(11, 1, 300)", 100);
        due.steps("2, 0, 1");
        due.row(1, 1, 175, 125, 100, 100, 100, 100, 100, 100, 100, 100, 150, 250);
    }

    @Edge(of = "KINDS", says = BOUNCE)
    static void aBounceAtOnce(Due due) {
        due.is("roll(5, 1, 500)", 100);
        due.steps("2, 0, 1");
        // one behind the other CELL 6 would have 175, CELL 7 some more
        due.row(1, 1, 100, 100, 100, 100, 200, 300, 200, 100, 100, 100, 100, 100);
    }

    @Edge(of = "KINDS", says = BOUNCE)
    static void aBounceIsCut(Due due) {
        due.is("roll(5, 1, 103)", 100);
        due.steps("2, 0, 1");
        // 403, 406, 403 by 4
        due.row(1, 1, 100, 100, 100, 100, 100, 101, 100, 100);
    }

    @Edge(of = "KINDS", says = BOUNCE)
    static void aBounceOfTheLeastLength(Due due) {
        due.rollAll(1, 1);
        due.is("roll(0, 1, 4)", 1);
        due.steps("2, 0, 1");
        // 13, 7, 4 by 4
        due.row(1, 1, 3, 1, 1, 1, 1, 1, 1, 1, 1, 1, 1, 1);
    }

    @Edge(of = "KINDS", says = "2 more than a PULL")
    static void howLongABounceTakes(Due due) {
        due.steps("2, 9, 1", "2, 0, 9");
        due.is("stepTold(0, 3)", 11);
        due.is("stepTold(1, 3)", 3);
    }

    // ---- a FOLD

    @Edge(of = "KINDS", says = FOLD)
    static void theEndsAndTheMiddleOfAFold(Due due) {
        due.rollAll(1, 4);
        due.is("roll(0, 1, 100)", 4);
        due.is("roll(5, 1, 200)", 4);
        due.is("roll(6, 1, 300)", 4);
        due.is("roll(11, 1, 400)", 4);
        due.steps("3, 0, 1");
        due.row(1, 1, 125, 125, 2, 2, 2, 2, 2, 2, 2, 2, 125, 125);
    }

    @Edge(of = "KINDS", says = FOLD)
    static void aFoldAtOnce(Due due) {
        for (int c = 0; c < 12; c++) {
            due.is("roll(" + c + ", 1, " + (1 << Math.min(c, 9)) + ")", 100);
        }
        due.steps("3, 0, 1");
        // 1 and 512, 2 and 512, 4 and 512, 8 and 256, 16 and 128, 32 and 64, each by 4
        due.row(1, 1, 128, 128, 128, 128, 129, 129, 66, 66, 36, 36, 24, 24);
    }

    @Edge(of = "KINDS", says = "MUCH: (MUCH of a and b) by 4")
    static void theLeastMuchOfAFold(Due due) {
        due.rollAll(1, 1);
        int[] rolled = {1, 1, 1, 2, 99999, 99999, 99999, 99999, 2, 2, 2, 1};
        for (int c = 0; c < 12; c++) {
            due.is("roll(" + c + ", 0, " + rolled[c] + ")", 60000);
        }
        due.steps("3, 0, 1");
        // LENGTH stays 1; 2, 3, 3, 4 and 199998 by 4
        due.row(1, 0, 0, 0, 0, 0, 0, 0, 1, 1, 49999, 49999, 49999, 49999);
    }

    @Edge(of = "KINDS", says = FOLD_LENGTH)
    static void theLeastLengthOfAFold(Due due) {
        int[] rolled = {1, 1, 2, 3, 3, 999, 999, 5, 4, 2, 2, 1};
        for (int c = 0; c < 12; c++) {
            due.is("roll(" + c + ", 1, " + rolled[c] + ")", 100);
        }
        due.steps("3, 0, 1");
        // 2, 3, 4, 7, 8, 1998 by 4
        due.row(1, 1, 1, 1, 1, 1, 1, 1, 1, 1, 2, 2, 499, 499);
    }

    @Edge(of = "KINDS", says = FOLD_LENGTH)
    static void foldedUntilNothingIsShorter(Due due) {
        due.rollAll(1, 3);
        due.steps("3, 0, 1", "3, 0, 1", "3, 0, 1");
        due.all(1, 1, 1);
        due.all(2, 1, 1);
        due.all(3, 1, 1);
    }

    @Edge(of = "KINDS", says = "STIFF: (STIFF of a and b) by 2")
    static void howStiffAFoldIs(Due due) {
        due.is("roll(11, 1, 300)", 100);
        due.law("1", "0", "0");
        due.steps("1, 9, 9", "3, 0, 1", "3, 0, 1");
        // 105 each: 9450 by 205 is 46, by 405 it is 23; 69 by 2, then 80 by 2
        due.row(1, 2, 46, 46, 46, 46, 46, 46, 46, 46, 46, 46, 46, 23);
        due.row(2, 2, 34, 34, 46, 46, 46, 46, 46, 46, 46, 46, 46, 46);
        due.row(3, 2, 40, 40, 40, 40, 46, 46);
    }

    @Edge(of = "KINDS", says = "STIFF: (STIFF of a and b) by 2")
    static void theMostStiffOfAFold(Due due) {
        due.steps("1, 9, 9", "1, 9, 9", "1, 9, 9", "3, 0, 1");
        due.all(3, 2, 99);
        due.all(4, 2, 99);
    }

    @Edge(of = "KINDS", says = "FOLDS 1 more")
    static void howManyFolds(Due due) {
        for (int s = 0; s < 12; s++) {
            due.steps((s % 2 == 0 ? 3 : 5) + ", 0, 1");
        }
        for (int n = 0; n <= 12; n++) {
            due.is("state(" + n + ", 3)", n);
        }
    }

    private static void sticks(Due due, String sticks, long free) {
        due.law("1", "0", sticks);
        due.steps("3, 0, 1");
        due.is("whole(1, 1)", free);
    }

    @Edge(of = "KINDS", says = STICKS)
    static void sticksOf0(Due due) {
        sticks(due, "0", 1000000000);
    }

    @Edge(of = "KINDS", says = STICKS)
    static void sticksBelow0(Due due) {
        sticks(due, "0 - 1", 1000000000);
    }

    @Edge(of = "KINDS", says = STICKS)
    static void sticksOf1(Due due) {
        sticks(due, "1", 990000000);
    }

    @Edge(of = "KINDS", says = STICKS)
    static void sticksOf99(Due due) {
        sticks(due, "99", 10000000);
    }

    @Edge(of = "KINDS", says = STICKS)
    static void sticksOf100(Due due) {
        sticks(due, "100", 0);
    }

    @Edge(of = "KINDS", says = STICKS)
    static void sticksOf101(Due due) {
        sticks(due, "101", 0);
        due.steps("3, 0, 1");
        due.is("whole(2, 1)", 0);
    }

    @Edge(of = "KINDS", says = STICKS)
    static void sticksOfCell0Alone(Due due) {
        // CELLS 0, 11 are of THICK 300 behind it, all others stick by 100
        due.is("roll(0, 0, 30000)", 60000);
        due.is("roll(11, 0, 30000)", 60000);
        sticks(due, "(thick = 300) * 7 + (thick = 600) * 100", 930000000);
    }

    @Edge(of = "KINDS", says = STICKS)
    static void sticksIsCut(Due due) {
        // 7 of 100 again and again
        due.law("1", "0", "7");
        long free = 1000000000;
        for (int n = 1; n <= 12; n++) {
            due.steps("3, 0, 1");
            free = free * 93 / 100;
            due.is("whole(" + n + ", 1)", free);
        }
    }

    @Edge(of = "KINDS", says = "by 100; 3.")
    static void howLongAFoldTakes(Due due) {
        due.steps("3, 0, 1", "3, 9, 9");
        due.is("stepTold(0, 3)", 3);
        due.is("stepTold(1, 3)", 3);
    }

    @Edge(of = "KINDS", says = "3 FOLD (a STEP)")
    static void moreAndPaceOfAFoldAreNothing(Due due) {
        due.steps("3, 9, 9");
        due.all(1, 1, 50);
        due.all(1, 0, 600);
        due.is("state(1, 6)", 0);
        due.is("whole(1, 1)", 980000000);
    }

    // ---- DUST

    @Edge(of = "KINDS", says = DUSTING)
    static void noMoreDust(Due due) {
        due.steps("4, 0, 9", "4, 1, 9", "4, 0, 9");
        due.is("state(1, 5)", 0);
        due.is("state(2, 5)", 1);
        due.is("state(3, 5)", 1);
    }

    @Edge(of = "KINDS", says = DUSTING)
    static void dustOf98And99(Due due) {
        for (int s = 0; s < 10; s++) {
            due.steps("4, 9, 1");
        }
        due.steps("4, 8, 1", "4, 1, 1");
        due.is("state(10, 5)", 90);
        due.is("state(11, 5)", 98);
        due.is("state(12, 5)", 99);
    }

    @Edge(of = "KINDS", says = DUSTING)
    static void dustThatWouldBe100(Due due) {
        for (int s = 0; s < 10; s++) {
            due.steps("4, 9, 1");
        }
        due.steps("4, 8, 1", "4, 2, 1");
        due.is("state(12, 5)", 99);
        due.is("forget()", 11);
        due.steps("4, 9, 1");
        due.is("state(12, 5)", 99);
    }

    @Edge(of = "KINDS", says = "MORE and 1")
    static void howLongDustTakes(Due due) {
        due.steps("4, 0, 9", "4, 9, 1");
        due.is("stepTold(0, 3)", 1);
        due.is("stepTold(1, 3)", 10);
    }

    // ---- a CUT

    @Edge(of = "KINDS", says = "5 CUT (a FOLD): as a FOLD; then CELLS 0 and 11")
    static void aCutOfNothingIsAFold(Due due) {
        due.is("roll(11, 1, 300)", 100);
        due.is("roll(0, 0, 99999)", 60000);
        due.steps("5, 0, 1");
        due.row(1, 1, 100, 100, 50, 50, 50, 50, 50, 50, 50, 50, 50, 50);
        due.is("rope(1, 0, 0)", 399);
        due.is("state(1, 3)", 1);
        due.is("state(1, 6)", 0);
        due.is("whole(1, 1)", 980000000);
    }

    @Edge(of = "KINDS", says = "5 CUT (a FOLD): as a FOLD; then CELLS 0 and 11")
    static void nothingButTheEndsIsCut(Due due) {
        due.steps("5, 5, 1");
        due.row(1, 1, 25, 50, 50, 50, 50, 50, 50, 50, 50, 50, 50, 25);
        due.all(1, 0, 600);
        due.is("state(1, 6)", 30000);
    }

    @Edge(of = "KINDS", says = "5 CUT (a FOLD): as a FOLD; then CELLS 0 and 11")
    static void aCutSticksAheadOfItsEnds(Due due) {
        due.law("1", "0", "(thick = 3000 * 10) * 10 + (thick = 3000) * 50");
        due.rollAll(1, 2);
        due.steps("5, 9, 1");
        due.is("whole(1, 1)", 900000000);
        due.is("rope(1, 0, 0)", 3000);
    }

    @Edge(of = "KINDS", says = CUT_OFF)
    static void aCutOfOneTenth(Due due) {
        due.rollAll(0, 99999);
        due.steps("5, 1, 1");
        // 49999 by 10 is 4999, twice; 45000 by 45
        due.is("state(1, 6)", 9998);
        due.is("rope(1, 0, 0)", 1000);
        due.is("rope(1, 11, 0)", 1000);
        due.is("rope(1, 5, 0)", 999);
    }

    @Edge(of = "KINDS", says = CUT_OFF)
    static void aCutOfNineTenths(Due due) {
        due.rollAll(0, 99999);
        due.steps("5, 9, 1");
        // 449991 by 10, twice; 5000 by 5
        due.is("state(1, 6)", 89998);
        due.is("rope(1, 0, 0)", 1000);
    }

    /** All MUCH as it is rolled, LENGTH 1. */
    private static void cutOf(Due due, int much, int cut, int thick) {
        due.rollAll(0, much);
        due.rollAll(1, 1);
        due.steps("5, 9, 1");
        due.is("state(1, 6)", cut);
        due.is("rope(1, 0, 0)", thick);
        due.is("rope(1, 11, 0)", thick);
    }

    @Edge(of = "KINDS", says = CUT_OFF)
    static void aCutOfNoMuch(Due due) {
        // 1 and 1 by 4 is 0: nothing is cut off, yet it is 1 at least
        cutOf(due, 1, 0, 1);
        due.row(1, 0, 1, 0, 0, 0, 0, 0, 0, 0, 0, 0, 0, 1);
    }

    @Edge(of = "KINDS", says = CUT_OFF)
    static void aCutOfTheLeastMuch(Due due) {
        // 1: 9 by 10
        cutOf(due, 2, 0, 1);
    }

    @Edge(of = "KINDS", says = CUT_OFF)
    static void aCutThatLeaves1(Due due) {
        // 2: 18 by 10
        cutOf(due, 4, 2, 1);
    }

    @Edge(of = "KINDS", says = CUT_OFF)
    static void aCutThatLeaves2(Due due) {
        // 11: 99 by 10
        cutOf(due, 22, 18, 2);
    }

    @Edge(of = "KINDS", says = CUT_LENGTH)
    static void theLeastLengthOfACut(Due due) {
        int[] rolled = {1, 1, 1, 1, 1, 1, 1, 1, 1, 1, 1, 2};
        for (int c = 0; c < 12; c++) {
            due.is("roll(" + c + ", 1, " + rolled[c] + ")", 100);
        }
        due.steps("5, 9, 1");
        due.all(1, 1, 1);
    }

    @Edge(of = "KINDS", says = CUT_LENGTH)
    static void lengthsThatACutLeaves(Due due) {
        // 9 less 8, 10 less 9; 11 less 9
        due.rollAll(1, 18);
        due.steps("5, 9, 1");
        due.row(1, 1, 1, 9, 9, 9, 9, 9, 9, 9, 9, 9, 9, 1);
        due.again();
        due.rollAll(1, 20);
        due.steps("5, 9, 1");
        due.is("rope(1, 0, 1)", 1);
        due.again();
        due.rollAll(1, 22);
        due.steps("5, 9, 1");
        due.is("rope(1, 0, 1)", 2);
    }

    @Edge(of = "KINDS", says = "MORE more than a FOLD")
    static void howLongACutTakes(Due due) {
        due.steps("5, 0, 9", "5, 9, 1");
        due.is("stepTold(0, 3)", 3);
        due.is("stepTold(1, 3)", 12);
    }
}
