/** Edges that promises 29 to 39 name. */
final class EdgesOfExact {
    private static final long NO = PulledToAHair.NO;
    private static final String PLACE = "Where a place (0 .. 4095) is behind k doublings (0 .. 64).";
    private static final String APART = "How far two places are apart behind k doublings.";
    private static final String PARTED =
        "The fewest doublings (0 .. 64) behind which two places are apart by far (0 .. 4095) or more";
    private static final String ROUND = "The fewest doublings (1 .. 64) behind which a place is where it was";
    private static final String COLOURS = "COLOURS (bits 0 .. 15) behind k doublings (0 .. 10)";
    private static final String STRANDS = "of all places what 0 the least, 1 the most strands of the one colour";
    private static final String MIXED = "2 how many have some of it, and some not.";
    private static final String THIN = "thick (1 .. 999999) by 2, k (0 .. 30) times multiplied: "
        + "part 0 above, 1 below the line, in lowest terms.";
    private static final String ODDS = "(below less above) by below, k (0 .. 10) times multiplied "
        + "(below 1 .. 30, above 0 .. below): part as of thin().";
    private static final String RECORD = "The most k (0 .. 10) for which that is no less than sure (0 .. 100) by 100.";
    private static final String BY_LOT =
        "DRAWN BY LOT: of the ROPE behind n STEPS what 0 THICK of a CELL, 1 SPREAD.";
    private static final String BACK = "All that it keeps is as in THE IMAGE: how many STEPS there are.";

    private EdgesOfExact() {
    }

    // ---- promise 29

    @Edge(of = "Promise 29", says = PLACE)
    static void noDoublingAndMost(Due due) {
        due.is("place(0, 0)", 0);
        due.is("place(4095, 0)", 4095);
        due.is("place(0, 64)", 0);
        due.is("place(1, 64)", 4095);
        // 64 are five times 13 less 1: a doubling more and it is where it was
        due.is("place(4095, 64)", 2048);
        due.is("place(2048, 64)", 1024);
    }

    @Edge(of = "Promise 29", says = PLACE)
    static void doublingsAroundTheMiddle(Due due) {
        due.is("place(1023, 2)", 4092);
        due.is("place(1024, 1)", 2048);
        due.is("place(1024, 2)", 4095);
        due.is("place(1024, 3)", 1);
        due.is("place(2047, 2)", 3);
        due.is("place(2048, 2)", 1);
    }

    @Edge(of = "Promise 29", says = "BAD.")
    static void noSuchPlace(Due due) {
        due.is("place(-1, 1)", -2);
        due.is("place(4096, 1)", -2);
        due.is("place(2147483647, 0)", -2);
        due.is("place(-2147483648, 0)", -2);
    }

    @Edge(of = "Promise 29", says = "BAD.")
    static void noSuchManyDoublings(Due due) {
        due.is("place(1, -1)", -2);
        due.is("place(1, 65)", -2);
        due.is("place(1, 2147483647)", -2);
    }

    // ---- promise 30

    @Edge(of = "Promise 30", says = APART)
    static void notApartAndFarthest(Due due) {
        due.is("apart(7, 7, 64)", 0);
        due.is("apart(0, 4095, 0)", 4095);
        due.is("apart(4095, 0, 0)", 4095);
        due.is("apart(0, 2048, 1)", 4095);
        due.is("apart(0, 1, 64)", 4095);
    }

    @Edge(of = "Promise 30", says = APART)
    static void neighboursAtTheMiddle(Due due) {
        due.is("apart(2047, 2048, 0)", 1);
        due.is("apart(2047, 2048, 1)", 1);
        due.is("apart(2048, 2047, 2)", 2);
    }

    @Edge(of = "Promise 30", says = "BAD.")
    static void noSuchPlacesApart(Due due) {
        due.is("apart(-1, 0, 0)", -2);
        due.is("apart(4096, 0, 0)", -2);
        due.is("apart(0, -1, 0)", -2);
        due.is("apart(0, 4096, 0)", -2);
        due.is("apart(0, 0, -1)", -2);
        due.is("apart(0, 0, 65)", -2);
    }

    // ---- promise 31

    @Edge(of = "Promise 31", says = PARTED)
    static void partedAtOnce(Due due) {
        due.is("parted(0, 4095, 4095)", 0);
        due.is("parted(9, 9, 0)", 0);
        due.is("parted(9, 10, 1)", 0);
        due.is("parted(10, 9, 1)", 0);
    }

    @Edge(of = "Promise 31", says = PARTED)
    static void justSoFarApart(Due due) {
        due.is("parted(0, 1, 2)", 1);
        due.is("parted(0, 1, 3)", 2);
        due.is("parted(0, 1, 2048)", 11);
        due.is("parted(0, 1, 2049)", 12);
        due.is("parted(0, 1, 4095)", 12);
    }

    @Edge(of = "Promise 31", says = "-1: none.")
    static void neverParted(Due due) {
        due.is("parted(9, 9, 1)", -1);
        due.is("parted(9, 9, 4095)", -1);
        // 1 and 2 are 4095 and 1 at most
        due.is("parted(1, 2, 4094)", 12);
        due.is("parted(1, 2, 4095)", -1);
    }

    @Edge(of = "Promise 31", says = "BAD.")
    static void noSuchPlacesParted(Due due) {
        due.is("parted(-1, 0, 1)", -2);
        due.is("parted(4096, 0, 1)", -2);
        due.is("parted(0, -1, 1)", -2);
        due.is("parted(0, 4096, 1)", -2);
        due.is("parted(0, 1, -1)", -2);
        due.is("parted(0, 1, 4096)", -2);
    }

    // ---- promise 32

    @Edge(of = "Promise 32", says = ROUND)
    static void aPlaceThatStays(Due due) {
        due.is("round(0)", 1);
        due.is("round(1)", 13);
        due.is("round(4095)", 13);
        due.is("round(2730)", 1 + 12);
    }

    @Edge(of = "Promise 32", says = ROUND)
    static void allPlacesComeRound(Due due) {
        for (int p = 0; p < 4096; p++) {
            if (p % 500 == 0) {
                due.again();
            }
            due.is("round(" + p + ")", p == 0 ? 1 : 13);
        }
    }

    @Edge(of = "Promise 32", says = "-1: none.")
    static void noPlaceIsNeverWhereItWas(Due due) {
        // 13 doublings are less than 64, so none is -1
        for (int p = 0; p < 4096; p += 9) {
            due.same("round(" + p + ") above 0", due.ask("round(" + p + ")") > 0 ? 1 : 0, 1);
        }
    }

    @Edge(of = "Promise 32", says = "BAD.")
    static void noSuchPlaceToComeRound(Due due) {
        due.is("round(-1)", -2);
        due.is("round(4096)", -2);
        due.is("round(-2147483648)", -2);
    }

    // ---- promise 33

    @Edge(of = "Promise 33", says = COLOURS)
    static void noDoublingsOfColours(Due due) {
        due.is("colours(2, 0, 0)", 0);
        due.is("colours(2, 0, 1)", 1);
        due.is("colours(2, 0, 2)", 0);
        due.is("colours(65535, 0, 0)", 1);
        due.is("colours(0, 0, 1)", 0);
    }

    @Edge(of = "Promise 33", says = COLOURS)
    static void tenDoublingsOfColours(Due due) {
        due.is("colours(1, 10, 0)", 64);
        due.is("colours(1, 10, 1)", 64);
        due.is("colours(1, 10, 2)", 16);
        due.is("colours(65535, 10, 0)", 1024);
        due.is("colours(0, 10, 1)", 0);
        due.is("colours(32767, 10, 1)", 960);
    }

    @Edge(of = "Promise 33", says = STRANDS)
    static void leastAndMostStrands(Due due) {
        due.is("colours(32769, 1, 0)", 0);
        due.is("colours(32769, 1, 1)", 2);
        due.is("colours(32769, 4, 0)", 2);
        due.is("colours(32769, 4, 1)", 2);
        due.is("colours(65534, 1, 0)", 1);
        due.is("colours(65534, 1, 1)", 2);
    }

    @Edge(of = "Promise 33", says = MIXED)
    static void noneAreMixedAndAll(Due due) {
        due.is("colours(255, 0, 2)", 0);
        due.is("colours(255, 1, 2)", 16);
        due.is("colours(32769, 1, 2)", 0);
        due.is("colours(65535, 10, 2)", 0);
        due.is("colours(0, 10, 2)", 0);
        due.is("colours(65534, 1, 2)", 2);
    }

    @Edge(of = "Promise 33", says = "BAD.")
    static void noSuchColours(Due due) {
        due.is("colours(-1, 0, 0)", -2);
        due.is("colours(65536, 0, 0)", -2);
        due.is("colours(2147483647, 0, 0)", -2);
    }

    @Edge(of = "Promise 33", says = "BAD.")
    static void noSuchDoublingsOfColours(Due due) {
        due.is("colours(1, -1, 0)", -2);
        due.is("colours(1, 11, 0)", -2);
        due.is("colours(1, 0, -1)", -2);
        due.is("colours(1, 0, 3)", -2);
    }

    // ---- promise 34

    private static void thin(Due due, int thick, int k, long above, long below) {
        due.is("thin(" + thick + ", " + k + ", 0)", above);
        due.is("thin(" + thick + ", " + k + ", 1)", below);
    }

    @Edge(of = "Promise 34", says = THIN)
    static void theLeastThickToThin(Due due) {
        thin(due, 1, 0, 1, 1);
        thin(due, 1, 1, 1, 2);
        thin(due, 1, 30, 1, 1073741824);
    }

    @Edge(of = "Promise 34", says = THIN)
    static void theMostThickToThin(Due due) {
        thin(due, 999999, 0, 999999, 1);
        thin(due, 999999, 30, 999999, 1073741824);
        thin(due, 999998, 30, 499999, 536870912);
    }

    @Edge(of = "Promise 34", says = THIN)
    static void lowestTerms(Due due) {
        thin(due, 600, 2, 150, 1);
        thin(due, 600, 3, 75, 1);
        thin(due, 600, 4, 75, 2);
        thin(due, 524288, 19, 1, 1);
        thin(due, 524288, 18, 2, 1);
        thin(due, 524288, 20, 1, 2);
    }

    @Edge(of = "Promise 34", says = "NO: none such.")
    static void noSuchThin(Due due) {
        due.is("thin(0, 0, 0)", NO);
        due.is("thin(-1, 0, 0)", NO);
        due.is("thin(1000000, 0, 0)", NO);
        due.is("thin(1, -1, 0)", NO);
        due.is("thin(1, 31, 0)", NO);
        due.is("thin(1, 0, -1)", NO);
        due.is("thin(1, 0, 2)", NO);
        due.is("thin(2147483647, 2147483647, 0)", NO);
    }

    // ---- promise 35

    private static void odds(Due due, int above, int below, int k, long over, long under) {
        due.is("odds(" + above + ", " + below + ", " + k + ", 0)", over);
        due.is("odds(" + above + ", " + below + ", " + k + ", 1)", under);
    }

    @Edge(of = "Promise 35", says = ODDS)
    static void neverMultiplied(Due due) {
        odds(due, 0, 1, 0, 1, 1);
        odds(due, 7, 30, 0, 1, 1);
        odds(due, 30, 30, 0, 1, 1);
    }

    @Edge(of = "Promise 35", says = ODDS)
    static void tenTimesMultiplied(Due due) {
        odds(due, 1, 30, 10, 420707233300201L, 590490000000000L);
        odds(due, 29, 30, 10, 1, 590490000000000L);
        odds(due, 15, 30, 10, 1, 1024);
        odds(due, 1, 2, 10, 1, 1024);
    }

    @Edge(of = "Promise 35", says = ODDS)
    static void noneAboveAndAll(Due due) {
        odds(due, 0, 30, 10, 1, 1);
        odds(due, 0, 1, 10, 1, 1);
        odds(due, 30, 30, 10, 0, 1);
        odds(due, 1, 1, 1, 0, 1);
    }

    @Edge(of = "Promise 35", says = "NO: none such.")
    static void noSuchOdds(Due due) {
        due.is("odds(0, 0, 0, 0)", NO);
        due.is("odds(0, -1, 0, 0)", NO);
        due.is("odds(1, 31, 0, 0)", NO);
        due.is("odds(-1, 3, 0, 0)", NO);
        due.is("odds(4, 3, 0, 0)", NO);
        due.is("odds(1, 3, -1, 0)", NO);
        due.is("odds(1, 3, 11, 0)", NO);
        due.is("odds(1, 3, 1, -1)", NO);
        due.is("odds(1, 3, 1, 2)", NO);
    }

    // ---- promise 36

    @Edge(of = "Promise 36", says = RECORD)
    static void neverAndTenTimes(Due due) {
        due.is("record(1, 30, 100)", 0);
        due.is("record(1, 1, 1)", 0);
        due.is("record(0, 1, 100)", 10);
        due.is("record(0, 30, 100)", 10);
        due.is("record(1, 1, 0)", 10);
    }

    @Edge(of = "Promise 36", says = RECORD)
    static void justSoSure(Due due) {
        due.is("record(1, 2, 50)", 1);
        due.is("record(1, 2, 51)", 0);
        due.is("record(1, 2, 25)", 2);
        due.is("record(1, 2, 26)", 1);
        // 96.67, then 93.44 of 100
        due.is("record(1, 30, 97)", 0);
        due.is("record(1, 30, 96)", 1);
        due.is("record(1, 30, 94)", 1);
        due.is("record(1, 30, 93)", 2);
        due.is("record(1, 10, 81)", 2);
        due.is("record(1, 10, 82)", 1);
        // 29 by 30 nine times is 0.737, ten times 0.712
        due.is("record(1, 30, 72)", 9);
        due.is("record(1, 30, 71)", 10);
    }

    @Edge(of = "Promise 36", says = "BAD.")
    static void noSuchRecord(Due due) {
        due.is("record(0, 0, 50)", -2);
        due.is("record(0, 31, 50)", -2);
        due.is("record(-1, 2, 50)", -2);
        due.is("record(3, 2, 50)", -2);
        due.is("record(1, 2, -1)", -2);
        due.is("record(1, 2, 101)", -2);
    }

    // ---- promise 37

    @Edge(of = "Promise 37", says = BY_LOT)
    static void behindNoSteps(Due due) {
        due.is("roll(11, 0, 99999)", 60000);
        due.is("drawn(0, 0, 0, 0)", 600);
        due.is("drawn(0, 11, 99999, 0)", 999);
        due.is("drawn(0, 0, 0, 1)", 399);
        due.is("drawn(0, 11, 0, 1)", 399);
    }

    @Edge(of = "Promise 37", says = BY_LOT)
    static void behindTwelveSteps(Due due) {
        for (int s = 0; s < 12; s++) {
            due.steps("3, 0, 1");
        }
        for (int n = 0; n <= 12; n++) {
            due.is("drawn(" + n + ", 0, 7, 0)", due.ask("rope(" + n + ", 0, 0)"));
        }
    }

    @Edge(of = "Promise 37", says = "-5: n")
    static void drawnBehindSoMany(Due due) {
        due.is("drawn(1, 0, 0, 0)", -5);
        due.is("drawn(-1, 0, 0, 0)", -5);
        due.is("drawn(1, 12, -1, 2)", -5);
    }

    @Edge(of = "Promise 37", says = "-7: CELL, SEED, what.")
    static void noSuchCellByLot(Due due) {
        due.is("drawn(0, -1, 0, 0)", -7);
        due.is("drawn(0, 12, 0, 0)", -7);
        due.is("drawn(0, -1, 0, 1)", -7);
        due.is("drawn(0, 12, 0, 1)", -7);
    }

    @Edge(of = "Promise 37", says = "-7: CELL, SEED, what.")
    static void noSuchSeed(Due due) {
        due.is("drawn(0, 0, -1, 0)", -7);
        due.is("drawn(0, 0, 100000, 0)", -7);
        due.is("drawn(0, 0, 2147483647, 0)", -7);
        due.is("drawn(0, 0, -2147483648, 1)", -7);
    }

    @Edge(of = "Promise 37", says = "-7: CELL, SEED, what.")
    static void whatIsDrawnByLot(Due due) {
        due.is("drawn(0, 0, 0, -1)", -7);
        due.is("drawn(0, 0, 0, 2)", -7);
        due.is("drawn(0, 0, 0, 2147483647)", -7);
    }

    // ---- promise 38

    @Edge(of = "Promise 38", says = "AN IMAGE is kept: how many STEPS.")
    static void anImageOfNoStepsAndOfTwelve(Due due) {
        due.is("image()", 0);
        for (int s = 0; s < 12; s++) {
            due.steps("1, 1, 1");
        }
        due.is("image()", 12);
    }

    @Edge(of = "Promise 38", says = "AN IMAGE is kept: how many STEPS.")
    static void aLaterImageTakesItsPlace(Due due) {
        due.is("image()", 0);
        due.is("set(0, 7)", 5);
        due.is("image()", 0);
        due.is("set(0, 9)", 7);
        due.is("back()", 0);
        due.is("count(0)", 7);
    }

    // ---- promise 39

    @Edge(of = "Promise 39", says = BACK)
    static void backMoreThanOnce(Due due) {
        due.is("image()", 0);
        due.is("back()", 0);
        for (int i = 0; i < 3; i++) {
            due.is("roll(0, 0, 1)", 60000);
            due.is("roll(11, 1, 1)", 100);
            due.is("set(2, 0)", 5);
            due.is("back()", 0);
        }
        due.is("taken(0, 6)", 60000);
        due.is("count(2)", 5);
    }

    @Edge(of = "Promise 39", says = BACK)
    static void stepsAreAsTheyAreNow(Due due) {
        due.steps("1, 1, 1", "1, 1, 1");
        due.is("image()", 2);
        due.is("forget()", 1);
        due.is("back()", 1);
        due.is("forget()", 0);
        due.is("back()", 0);
        for (int s = 0; s < 12; s++) {
            due.steps("1, 1, 1");
        }
        due.is("back()", 12);
    }

    @Edge(of = "Promise 39", says = "STATE: there is none.")
    static void noImage(Due due) {
        due.is("set(0, 9)", 5);
        due.is("back()", -3);
        due.is("count(0)", 9);
        due.is("image()", 0);
        due.is("back()", 0);
        due.again();
        due.is("back()", -3);
    }
}
