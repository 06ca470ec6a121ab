/** Edges that promises 11 to 15 name. */
final class EdgesOfRope {
    private static final long NO = PulledToAHair.NO;
    private static final String OF_A_CELL = "Of a CELL what 0 THICK, 1 LENGTH, 2 STIFF.";
    private static final String LEAST = "What 0 the first CELL of least THICK";
    private static final String DOUBLED = "4 all LENGTH, doubled FOLDS times";
    private static final String TAKEN = "7 how much all n STEPS TAKE";
    private static final String PARTS = "PARTS that are what 0 WHOLE, 1 FREE, 2 WHOLE times FREE by 1000000000.";
    private static final String MOST_STEPS = "The most STEPS behind which the last of these (what 2) "
        + "is no less than sure (0 .. 100) of 100";
    private static final String WORST = "The STEP by which most of it is lost";

    private EdgesOfRope() {
    }

    // ---- promise 11

    @Edge(of = "Promise 11", says = OF_A_CELL)
    static void theFirstAndTheLastCellTold(Due due) {
        due.is("roll(0, 0, 99999)", 60000);
        due.is("roll(0, 1, 1)", 100);
        due.is("roll(11, 0, 1)", 60000);
        due.is("roll(11, 1, 999)", 100);
        due.is("rope(0, 0, 0)", 99999);
        due.is("rope(0, 0, 1)", 1);
        due.is("rope(0, 0, 2)", 0);
        due.is("rope(0, 11, 0)", 0);
        due.is("rope(0, 11, 1)", 999);
        due.is("rope(0, 11, 2)", 0);
    }

    @Edge(of = "Promise 11", says = "-5: n")
    static void noSoManyStepsToTell(Due due) {
        due.is("rope(-1, 0, 0)", -5);
        due.is("rope(1, 0, 0)", -5);
        due.steps("1, 9, 9");
        due.is("rope(1, 0, 2)", 42);
        due.is("rope(2, 0, 2)", -5);
        due.is("rope(2, 12, 3)", -5);
    }

    @Edge(of = "Promise 11", says = "-7: CELL, what.")
    static void noSuchCellToTell(Due due) {
        due.is("rope(0, -1, 0)", -7);
        due.is("rope(0, 12, 0)", -7);
        due.is("rope(0, 2147483647, 0)", -7);
        due.is("rope(0, -2147483648, 0)", -7);
    }

    @Edge(of = "Promise 11", says = "-7: CELL, what.")
    static void whatToTellOfACell(Due due) {
        due.is("rope(0, 0, -1)", -7);
        due.is("rope(0, 0, 3)", -7);
        due.is("rope(0, 11, 2147483647)", -7);
    }

    // ---- promise 12

    @Edge(of = "Promise 12", says = LEAST)
    static void theFirstOfLeastThick(Due due) {
        due.is("state(0, 0)", 0);
        due.is("roll(11, 0, 59900)", 60000);
        due.is("state(0, 0)", 11);
        due.is("roll(4, 0, 59999)", 60000);
        // 599, too
        due.is("state(0, 0)", 4);
    }

    @Edge(of = "Promise 12", says = "1 of greatest")
    static void theFirstOfGreatestThick(Due due) {
        due.is("state(0, 1)", 0);
        due.is("roll(11, 0, 60100)", 60000);
        due.is("state(0, 1)", 11);
        due.is("roll(4, 0, 60199)", 60000);
        due.is("state(0, 1)", 4);
    }

    @Edge(of = "Promise 12", says = "2 SPREAD")
    static void theLeastSpread(Due due) {
        due.is("state(0, 2)", 0);
        due.is("roll(11, 0, 60099)", 60000);
        due.is("state(0, 2)", 0);
        due.is("roll(11, 0, 60100)", 60099);
        due.is("state(0, 2)", 1);
    }

    @Edge(of = "Promise 12", says = "3 FOLDS")
    static void noFoldsAndTwelve(Due due) {
        due.is("state(0, 3)", 0);
        for (int s = 0; s < 12; s++) {
            due.steps("3, 0, 1");
        }
        due.is("state(12, 3)", 12);
    }

    @Edge(of = "Promise 12", says = DOUBLED)
    static void doubledNeverAndTwelveTimes(Due due) {
        due.is("state(0, 4)", 1200);
        for (int s = 0; s < 12; s++) {
            due.steps("3, 0, 1");
        }
        // each is 50, 25, 12, 6, 3, 1, 1, ..
        due.is("state(1, 4)", 1200);
        due.is("state(12, 4)", 12 * 4096);
    }

    @Edge(of = "Promise 12", says = DOUBLED)
    static void theLeastAndTheMostLength(Due due) {
        due.rollAll(1, 1);
        due.is("state(0, 4)", 12);
        due.rollAll(1, 999);
        due.is("state(0, 4)", 11988);
        for (int s = 0; s < 11; s++) {
            due.steps("1, 9, 1");
        }
        due.steps("3, 0, 1");
        due.is("state(12, 4)", 12000000);
    }

    @Edge(of = "Promise 12", says = "5 DUST")
    static void noDustAndMost(Due due) {
        due.is("state(0, 5)", 0);
        for (int s = 0; s < 12; s++) {
            due.steps("4, 9, 1");
        }
        due.is("state(11, 5)", 99);
        due.is("state(12, 5)", 99);
    }

    @Edge(of = "Promise 12", says = "6 CUT")
    static void noCutAndMuch(Due due) {
        due.steps("3, 9, 1", "5, 0, 1", "5, 9, 1");
        due.is("state(0, 6)", 0);
        due.is("state(2, 6)", 0);
        // 30000, 15000, 7500: 6750 twice
        due.is("state(3, 6)", 13500);
    }

    @Edge(of = "Promise 12", says = TAKEN)
    static void noTimeAndMost(Due due) {
        due.is("state(0, 7)", 0);
        for (int s = 0; s < 12; s++) {
            due.steps("0, 9, 1");
        }
        due.is("state(1, 7)", 90);
        due.is("state(12, 7)", 1080);
    }

    @Edge(of = "Promise 12", says = "-5: n")
    static void noStateOfSoMany(Due due) {
        due.is("state(-1, 0)", -5);
        due.is("state(1, 0)", -5);
        due.is("state(1, 8)", -5);
    }

    @Edge(of = "Promise 12", says = "-7: what.")
    static void whatState(Due due) {
        due.is("state(0, -1)", -7);
        due.is("state(0, 8)", -7);
        due.is("state(0, -2147483648)", -7);
    }

    // ---- promise 13

    @Edge(of = "Promise 13", says = PARTS)
    static void allPartsAndNone(Due due) {
        for (int what = 0; what <= 2; what++) {
            due.is("whole(0, " + what + ")", 1000000000);
        }
        due.law("1", "100", "0");
        due.steps("1, 0, 1");
        due.is("whole(1, 0)", 0);
        due.is("whole(1, 1)", 1000000000);
        due.is("whole(1, 2)", 0);
    }

    @Edge(of = "Promise 13", says = PARTS)
    static void wholeAndFreeIsCut(Due due) {
        due.law("1", "7", "13");
        due.steps("1, 0, 1", "3, 0, 1");
        // 418596295 times 870000000 is 364178776.65 times 1000000000
        due.is("whole(2, 2)", 364178776);
    }

    @Edge(of = "Promise 13", says = PARTS)
    static void littleIsWholeAndFree(Due due) {
        due.law("1", "(thick = 300) * 99", "99");
        due.is("roll(0, 0, 30000)", 60000);
        due.is("roll(11, 0, 30000)", 60000);
        due.steps("1, 0, 1", "1, 0, 1", "3, 0, 1");
        // 100000 of WHOLE (CELLS 0 and 11 twice: 10, that is), 10000000 of FREE
        due.is("whole(2, 0)", 10);
        due.is("whole(3, 1)", 10000000);
        due.is("whole(3, 2)", 0);
    }

    @Edge(of = "Promise 13", says = "NO: n, what.")
    static void noSuchParts(Due due) {
        due.same("NO", NO, -4611686018427387904L);
        due.is("whole(-1, 0)", NO);
        due.is("whole(1, 0)", NO);
        due.is("whole(13, 0)", NO);
        due.is("whole(0, -1)", NO);
        due.is("whole(0, 3)", NO);
        due.is("whole(1, 3)", NO);
    }

    // ---- promise 14

    /** Two FOLDS with a rest ahead of each; behind them 90 and 81 of 100 are free. */
    private static void freeBy90And81(Due due) {
        due.law("1", "0", "10");
        due.steps("0, 1, 1", "3, 0, 1", "0, 1, 1", "3, 0, 1");
    }

    @Edge(of = "Promise 14", says = MOST_STEPS)
    static void justSoSure(Due due) {
        freeBy90And81(due);
        due.is("stop(90)", 3);
        due.is("stop(91)", 1);
        due.is("stop(81)", 4);
        due.is("stop(82)", 3);
    }

    @Edge(of = "Promise 14", says = MOST_STEPS)
    static void aLittleLessSure(Due due) {
        // 886384868 are whole
        due.law("1", "1", "0");
        due.steps("1, 0, 1");
        due.is("stop(88)", 1);
        due.is("stop(89)", 0);
    }

    @Edge(of = "Promise 14", says = MOST_STEPS)
    static void wholeAndFreeTogether(Due due) {
        due.law("1", "(thick = 300) * 10", "10");
        due.is("roll(2, 0, 30000)", 60000);
        due.steps("1, 0, 1", "3, 0, 1");
        due.is("stop(90)", 1);
        due.is("stop(82)", 1);
        due.is("stop(81)", 2);
    }

    @Edge(of = "Promise 14", says = MOST_STEPS)
    static void notSureAtAllAndSureOfAll(Due due) {
        due.law("1", "0", "100 * (folds = 2)");
        due.steps("3, 0, 1", "3, 0, 1", "3, 0, 1");
        due.is("whole(2, 2)", 0);
        due.is("stop(0)", 3);
        due.is("stop(1)", 1);
        due.is("stop(100)", 1);
    }

    @Edge(of = "Promise 14", says = "0: none.")
    static void behindNone(Due due) {
        due.is("stop(0)", 0);
        due.is("stop(100)", 0);
        due.steps("3, 0, 1");
        due.is("stop(99)", 0);
        due.is("stop(98)", 1);
    }

    @Edge(of = "Promise 14", says = "BAD.")
    static void sureBelow0AndAbove100(Due due) {
        due.is("stop(-1)", -2);
        due.is("stop(101)", -2);
        due.is("stop(-2147483648)", -2);
        due.is("stop(2147483647)", -2);
    }

    // ---- promise 15

    @Edge(of = "Promise 15", says = WORST)
    static void theFirstStepIsWorst(Due due) {
        due.law("1", "0", "40 * (folds = 1) + 5");
        due.steps("3, 0, 1", "3, 0, 1", "3, 0, 1");
        due.is("worst()", 0);
    }

    @Edge(of = "Promise 15", says = WORST)
    static void theTwelfthStepIsWorst(Due due) {
        due.law("1", "0", "90 * (folds = 12) + 1");
        for (int s = 0; s < 12; s++) {
            due.steps("3, 0, 1");
        }
        due.is("worst()", 11);
        due.is("forget()", 11);
        due.is("worst()", 0);
    }

    @Edge(of = "Promise 15", says = WORST)
    static void howMuchIsLostNotWhichPart(Due due) {
        // 50 of 100, then 90 of 50, 45
        due.law("1", "0", "50 * (folds = 1) + 90 * (folds = 2)");
        due.steps("3, 0, 1", "3, 0, 1");
        due.is("worst()", 0);
    }

    @Edge(of = "Promise 15", says = WORST)
    static void byTearingOrBySticking(Due due) {
        due.law("1", "(thick = 300) * 20", "21");
        due.is("roll(3, 0, 30000)", 60000);
        due.steps("1, 0, 1", "3, 0, 1");
        // 20, then 21 of 80
        due.is("worst()", 0);
        due.law("1", "(thick = 300) * 20", "26");
        // 20, then 26 of 80, 20.8
        due.is("worst()", 1);
    }

    @Edge(of = "Promise 15", says = "of like ones the first")
    static void ofLikeStepsTheFirst(Due due) {
        // 50 of 100, then all of 50
        due.law("1", "0", "50 * (folds = 1) + 100 * (folds = 2)");
        due.steps("0, 1, 1", "3, 0, 1", "3, 0, 1");
        due.is("worst()", 1);
    }

    @Edge(of = "Promise 15", says = "-1: none is by any.")
    static void nothingIsLost(Due due) {
        due.is("worst()", -1);
        due.law("1", "0", "0");
        due.steps("1, 9, 9", "3, 0, 1", "5, 9, 9", "0, 9, 1", "4, 9, 1", "2, 9, 9");
        due.is("worst()", -1);
    }

    @Edge(of = "Promise 15", says = "-1: none is by any.")
    static void nothingIsThereToLose(Due due) {
        due.law("1", "0", "100");
        due.steps("0, 1, 1", "3, 0, 1", "3, 0, 1");
        due.is("worst()", 1);
    }
}
