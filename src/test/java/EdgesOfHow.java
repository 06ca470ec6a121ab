/** Edges that promises 16 to 20 name. */
final class EdgesOfHow {
    private static final String PACES = "PACES (bits 1 .. 9) by which";
    private static final String BY_MORE =
        "DRAWN by all LENGTH times more (0 .. 9) by 10, the ROPE would be MORE EVEN than it is.";
    private static final String MOST_WHOLE = "The PACE (1 .. 9) by which, DRAWN likewise, most would be WHOLE (what 0)";
    private static final String LEAST_SPREAD = "SPREAD would be least (1)";
    private static final String MINUTES = "The fewest minutes (0 .. 30) of rest (as of a STEP)";
    private static final String HOW = "DRAWN by all LENGTH times (how by 10) by 10 at PACE (how modulo 10)";
    private static final String SURE = "sure (0 .. 100) of 100 or more of what is WHOLE would be";
    private static final String REFUSED_HOW = "-7: how (PACE 1 .. 9), sure.";
    private static final String LEAST_DUST = "The least more of DUST (0 .. 99; 99 in all at most)";
    private static final String NO_MORE_LOST = "no more than most (0 .. 100) of 100 of what is FREE would be lost";
    private static final String HOW_OFTEN = "How often (0 .. 20) it can be, one behind the other";
    private static final String NOT_BELOW = "so that no CELL's THICK is below thin (1 .. 9999) behind any of these.";

    private EdgesOfHow() {
    }

    // ---- promise 16

    /** CELL 0 is of THICK 300, the others of 600; at these paces the thick ones are drawn more easily. */
    private static void evenBy(Due due, String paces) {
        due.law("(thick = 600) * (" + paces + ") * 50 + 10", "0", "0");
        due.is("roll(0, 0, 30000)", 60000);
    }

    @Edge(of = "Promise 16", says = PACES)
    static void theFirstPaceAlone(Due due) {
        evenBy(due, "pace = 1");
        due.is("window(0, 1)", 2);
    }

    @Edge(of = "Promise 16", says = PACES)
    static void theLastPaceAlone(Due due) {
        evenBy(due, "pace = 9");
        due.is("window(0, 1)", 512);
    }

    @Edge(of = "Promise 16", says = PACES)
    static void noPaceAndAll(Due due) {
        evenBy(due, "pace = 0");
        due.is("window(0, 1)", 0);
        due.law("(thick = 600) * 50 + 10", "0", "0");
        due.is("window(0, 1)", 1022);
    }

    @Edge(of = "Promise 16", says = BY_MORE)
    static void evenByNothing(Due due) {
        evenBy(due, "1");
        due.is("window(0, 0)", 0);
    }

    @Edge(of = "Promise 16", says = BY_MORE)
    static void evenByMost(Due due) {
        evenBy(due, "4 < pace");
        due.is("window(0, 9)", 0b1111100000);
        due.is("window(0, 1)", 0b1111100000);
    }

    @Edge(of = "Promise 16", says = "-5: n")
    static void noWindowOfSoMany(Due due) {
        due.is("window(1, 5)", -5);
        due.is("window(-1, 5)", -5);
        due.is("window(1, 10)", -5);
    }

    @Edge(of = "Promise 16", says = "-7: more.")
    static void moreOfAWindow(Due due) {
        due.is("window(0, -1)", -7);
        due.is("window(0, 10)", -7);
        due.is("window(0, 2147483647)", -7);
        due.is("window(0, -2147483648)", -7);
    }

    // ---- promise 17

    private static void tornUnless(Due due, String pace) {
        due.law("1", "not " + pace, "0");
    }

    @Edge(of = "Promise 17", says = MOST_WHOLE)
    static void theFirstAndTheLastPaceAreBest(Due due) {
        tornUnless(due, "pace = 1");
        due.is("pace(0, 5, 0)", 1);
        tornUnless(due, "pace = 9");
        due.is("pace(0, 5, 0)", 9);
        tornUnless(due, "pace = 5");
        due.is("pace(0, 5, 0)", 5);
    }

    @Edge(of = "Promise 17", says = MOST_WHOLE)
    static void pacesOutsideAreNotTried(Due due) {
        due.law("1", "(0 < pace and pace < 10) * 5", "0");
        due.is("pace(0, 5, 0)", 1);
    }

    @Edge(of = "Promise 17", says = MOST_WHOLE)
    static void nothingWouldBeWhole(Due due) {
        due.law("1", "100", "0");
        due.is("pace(0, 5, 0)", 1);
        due.steps("1, 0, 1");
        due.is("pace(1, 5, 0)", 1);
    }

    @Edge(of = "Promise 17", says = LEAST_SPREAD)
    static void theFirstAndTheLastPaceOfLeastSpread(Due due) {
        evenBy(due, "pace = 9");
        due.is("pace(0, 1, 1)", 9);
        due.law("(thick = 600) * (pace = 1) * 50 + 10", "0", "0");
        due.is("pace(0, 1, 1)", 1);
        due.law("(thick = 600) * (1 < pace) * 50 + 10", "0", "0");
        due.is("pace(0, 1, 1)", 2);
    }

    @Edge(of = "Promise 17", says = "of like ones the least.")
    static void ofLikePacesTheLeast(Due due) {
        due.law("1", "(pace < 4) or (6 < pace)", "0");
        due.is("pace(0, 9, 0)", 4);
        due.is("pace(0, 0, 0)", 4);
        due.is("pace(0, 9, 1)", 1);
        due.is("pace(0, 0, 1)", 1);
    }

    @Edge(of = "Promise 17", says = "-5: n")
    static void noPaceOfSoMany(Due due) {
        due.is("pace(1, 5, 0)", -5);
        due.is("pace(-1, 5, 0)", -5);
        due.is("pace(1, 10, 2)", -5);
    }

    @Edge(of = "Promise 17", says = "-7: more, what.")
    static void moreOfAPace(Due due) {
        due.is("pace(0, -1, 0)", -7);
        due.is("pace(0, 10, 1)", -7);
    }

    @Edge(of = "Promise 17", says = "-7: more, what.")
    static void whatOfAPace(Due due) {
        due.is("pace(0, 5, -1)", -7);
        due.is("pace(0, 5, 2)", -7);
        due.is("pace(0, 5, 2147483647)", -7);
    }

    // ---- promise 18

    /** All is STIFF 42, what is stiffer than this tears wholly; it is cold: a minute takes 1. */
    private static void tornIfStiffer(Due due, int stiff) {
        due.law("1", "100 * (" + stiff + " < stiff) * (pace < 9)", "0");
        due.steps("1, 9, 9");
        due.ask("set(2, 0)");
    }

    @Edge(of = "Promise 18", says = MINUTES)
    static void noMinuteOfRest(Due due) {
        tornIfStiffer(due, 42);
        due.is("rest(1, 1, 100)", 0);
    }

    @Edge(of = "Promise 18", says = MINUTES)
    static void oneMinuteOfRest(Due due) {
        tornIfStiffer(due, 41);
        due.is("rest(1, 1, 100)", 1);
    }

    @Edge(of = "Promise 18", says = MINUTES)
    static void thirtyMinutesOfRest(Due due) {
        tornIfStiffer(due, 12);
        due.is("rest(1, 1, 100)", 30);
    }

    @Edge(of = "Promise 18", says = MINUTES)
    static void aRestWhereItIsWarm(Due due) {
        tornIfStiffer(due, 0);
        due.is("set(2, 5)", 0);
        due.is("rest(1, 1, 100)", 7);
        due.is("set(2, 9)", 5);
        due.is("rest(1, 1, 100)", 5);
    }

    @Edge(of = "Promise 18", says = "-1: none.")
    static void thirtyOneMinutesAreNone(Due due) {
        tornIfStiffer(due, 11);
        due.is("rest(1, 1, 100)", -1);
        due.is("rest(1, 1, 1)", -1);
        due.is("rest(1, 1, 0)", 0);
    }

    @Edge(of = "Promise 18", says = HOW)
    static void byNothingAndByNineTenths(Due due) {
        // at PACE 8 nothing gets stiffer by nothing; by 37 it gets by 9 tenths, by 7 by one, by 40 by 8 at PACE 9
        due.law("1", "100 * (stiff = 37) + 100 * (stiff = 7)", "0");
        due.is("rest(0, 8, 100)", 0);
        due.is("rest(0, 98, 1)", -1);
        due.is("rest(0, 18, 1)", -1);
        due.is("rest(0, 81, 100)", 0);
        due.is("rest(0, 89, 100)", 0);
    }

    @Edge(of = "Promise 18", says = HOW)
    static void atTheFirstAndTheLastPace(Due due) {
        due.law("1", "100 * (pace = 1) + (pace = 9)", "0");
        due.is("rest(0, 91, 1)", -1);
        due.is("rest(0, 92, 100)", 0);
        due.is("rest(0, 98, 100)", 0);
        due.is("rest(0, 99, 100)", -1);
        due.is("rest(0, 9, 88)", 0);
        due.is("rest(0, 9, 89)", -1);
    }

    @Edge(of = "Promise 18", says = SURE)
    static void justSoMuchWouldBeWhole(Due due) {
        due.law("1", "10 * (thick = 300)", "0");
        due.is("roll(0, 0, 30000)", 60000);
        due.is("rest(0, 5, 90)", 0);
        due.is("rest(0, 5, 91)", -1);
        due.is("rest(0, 5, 0)", 0);
        due.is("rest(0, 5, 100)", -1);
    }

    @Edge(of = "Promise 18", says = SURE)
    static void ofWhatIsWholeNotOfAll(Due due) {
        // 886384868 are whole, of these 99 of 100 less a part of one would be
        due.law("1", "(pace = 1) + (pace = 2) * (thick = 300)", "0");
        due.is("roll(0, 0, 30000)", 60000);
        due.steps("1, 0, 1");
        due.is("whole(1, 0)", 886384868);
        due.is("rest(1, 2, 98)", 0);
        due.is("rest(1, 2, 99)", -1);
        due.is("rest(1, 3, 100)", 0);
    }

    @Edge(of = "Promise 18", says = SURE)
    static void allOfNothing(Due due) {
        due.law("1", "100", "0");
        due.steps("1, 0, 1");
        due.is("rest(1, 11, 100)", 0);
        due.is("rest(0, 11, 100)", -1);
    }

    @Edge(of = "Promise 18", says = "-5: n")
    static void noRestOfSoMany(Due due) {
        due.is("rest(1, 55, 50)", -5);
        due.is("rest(-1, 55, 50)", -5);
        due.is("rest(1, 0, 101)", -5);
    }

    @Edge(of = "Promise 18", says = REFUSED_HOW)
    static void noPaceToDrawAt(Due due) {
        for (int how = 0; how <= 100; how += 10) {
            due.is("rest(0, " + how + ", 50)", -7);
        }
    }

    @Edge(of = "Promise 18", says = REFUSED_HOW)
    static void howBelow0(Due due) {
        due.is("rest(0, -1, 50)", -7);
        due.is("rest(0, -5, 50)", -7);
        due.is("rest(0, -15, 50)", -7);
        due.is("rest(0, -2147483648, 50)", -7);
    }

    @Edge(of = "Promise 18", says = REFUSED_HOW)
    static void sureOfARest(Due due) {
        due.is("rest(0, 55, -1)", -7);
        due.is("rest(0, 55, 101)", -7);
        due.is("rest(0, 55, 2147483647)", -7);
    }

    // ---- promise 19

    @Edge(of = "Promise 19", says = LEAST_DUST)
    static void noMoreDustIsNeeded(Due due) {
        due.law("1", "0", "10 - dust");
        due.is("dust(0, 10)", 0);
        due.is("dust(0, 9)", 1);
        due.is("dust(0, 0)", 10);
    }

    @Edge(of = "Promise 19", says = LEAST_DUST)
    static void theMostDustIsNeeded(Due due) {
        due.law("1", "0", "110 - dust");
        due.is("dust(0, 12)", 98);
        due.is("dust(0, 11)", 99);
    }

    @Edge(of = "Promise 19", says = LEAST_DUST)
    static void dustThatIsThereAlready(Due due) {
        due.law("1", "0", "110 - dust");
        for (int s = 0; s < 10; s++) {
            due.steps("4, 9, 1");
        }
        due.is("dust(10, 20)", 0);
        due.is("dust(10, 11)", 9);
        due.steps("4, 9, 1");
        due.is("dust(11, 11)", 0);
    }

    @Edge(of = "Promise 19", says = "were it doubled then (as of a FOLD)")
    static void thisFoldIsCounted(Due due) {
        due.law("1", "0", "folds * 10 - dust + pace");
        due.is("dust(0, 0)", 10);
        due.steps("3, 0, 1");
        due.is("dust(1, 0)", 20);
        due.is("dust(0, 0)", 10);
    }

    @Edge(of = "Promise 19", says = NO_MORE_LOST)
    static void allMayBeLost(Due due) {
        due.law("1", "0", "100");
        due.is("dust(0, 100)", 0);
        due.is("dust(0, 99)", -1);
    }

    @Edge(of = "Promise 19", says = NO_MORE_LOST)
    static void ofWhatIsFreeNotOfAll(Due due) {
        // 695688369 are free; 5 of 100 and a part of one are lost of them, that is more than 5 of 100
        due.law("1", "0", "(folds < 6) * 7 + (folds = 6) * 5 - dust");
        due.steps("3, 0, 1", "3, 0, 1", "3, 0, 1", "3, 0, 1", "3, 0, 1");
        due.is("whole(5, 1)", 695688369);
        due.is("dust(5, 6)", 0);
        due.is("dust(5, 5)", 1);
        due.is("dust(0, 7)", 0);
        due.is("dust(0, 6)", 1);
    }

    @Edge(of = "Promise 19", says = NO_MORE_LOST)
    static void nothingIsFree(Due due) {
        due.law("1", "0", "100");
        due.steps("3, 0, 1");
        due.is("dust(1, 0)", 0);
    }

    @Edge(of = "Promise 19", says = "-1: none.")
    static void noDustIsEnough(Due due) {
        due.law("1", "0", "110 - dust");
        due.is("dust(0, 10)", -1);
        due.is("dust(0, 0)", -1);
    }

    @Edge(of = "Promise 19", says = "-5: n")
    static void noDustOfSoMany(Due due) {
        due.is("dust(1, 5)", -5);
        due.is("dust(-1, 5)", -5);
        due.is("dust(1, 101)", -5);
    }

    @Edge(of = "Promise 19", says = "-7: most.")
    static void mostBelow0AndAbove100(Due due) {
        due.is("dust(0, -1)", -7);
        due.is("dust(0, 101)", -7);
        due.is("dust(0, 2147483647)", -7);
        due.is("dust(0, -2147483648)", -7);
    }

    // ---- promise 20

    @Edge(of = "Promise 20", says = HOW_OFTEN)
    static void notEvenOnce(Due due) {
        due.is("doublings(0, 1, 301)", 0);
        due.is("doublings(0, 1, 9999)", 0);
        due.rollAll(0, 1);
        due.is("doublings(0, 1, 1)", 0);
    }

    @Edge(of = "Promise 20", says = HOW_OFTEN)
    static void asOftenAsCanBe(Due due) {
        // of THICK 99999 it is 50000, .., 1
        due.rollAll(0, 99999);
        due.rollAll(1, 1);
        due.is("doublings(0, 1, 1)", 16);
        due.is("doublings(0, 9, 1)", 16);
    }

    @Edge(of = "Promise 20", says = "DRAWN by all its LENGTH at a PACE, then doubled (as of a FOLD)")
    static void theFirstAndTheLastPaceOfADoubling(Due due) {
        // at PACE 9 alone CELL 0 is drawn far more than the others: the first is still thick enough, the next isn't
        due.law("(thick = 599) * (pace = 9) * 98 + 1", "0", "0");
        due.is("roll(0, 0, 59999)", 60000);
        due.is("doublings(0, 1, 290)", 1);
        due.is("doublings(0, 9, 290)", 0);
    }

    @Edge(of = "Promise 20", says = NOT_BELOW)
    static void justSoThick(Due due) {
        due.is("doublings(0, 1, 300)", 1);
        due.is("doublings(0, 1, 299)", 1);
        due.is("doublings(0, 1, 151)", 1);
        due.is("doublings(0, 1, 150)", 2);
    }

    @Edge(of = "Promise 20", says = NOT_BELOW)
    static void oneCellThatIsThin(Due due) {
        // CELLS 5 and 6: 10000 and 60000 by 4, LENGTH 100; THICK 175. It is 50 ahead of the fold
        due.law("1", "0", "0");
        due.is("roll(5, 0, 10000)", 60000);
        due.is("doublings(0, 1, 175)", 1);
        due.is("doublings(0, 1, 176)", 0);
    }

    @Edge(of = "Promise 20", says = NOT_BELOW)
    static void theThinnestAndTheThickest(Due due) {
        due.steps("1, 9, 1", "1, 9, 1", "3, 0, 1");
        due.is("rope(3, 0, 0)", 166);
        due.is("doublings(3, 5, 9999)", 0);
        // 83, 41, 20, 10, 5, 2, 1, 0
        due.is("doublings(3, 5, 1)", 7);
        due.is("doublings(0, 5, 1)", 9);
    }

    @Edge(of = "Promise 20", says = "-5: n")
    static void noDoublingsOfSoMany(Due due) {
        due.is("doublings(1, 5, 20)", -5);
        due.is("doublings(-1, 5, 20)", -5);
        due.is("doublings(1, 0, 0)", -5);
    }

    @Edge(of = "Promise 20", says = "-7: PACE, thin.")
    static void noSuchPaceOfADoubling(Due due) {
        due.is("doublings(0, 0, 20)", -7);
        due.is("doublings(0, 10, 20)", -7);
        due.is("doublings(0, -1, 20)", -7);
    }

    @Edge(of = "Promise 20", says = "-7: PACE, thin.")
    static void thinBelow1AndAbove9999(Due due) {
        due.is("doublings(0, 5, 0)", -7);
        due.is("doublings(0, 5, 10000)", -7);
        due.is("doublings(0, 5, -1)", -7);
    }
}
