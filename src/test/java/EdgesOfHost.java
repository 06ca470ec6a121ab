/** Edges that promises 40 to 44 name. */
final class EdgesOfHost {
    private static final String ROW = "A SHEET becomes a row of n of a sort, all 0";
    private static final String MISSING = "or missing (sort -1: n does not matter): 1.";
    private static final String NO_ROW = "BAD: SHEET, sort, n above 40";
    private static final String BECOMES =
        "Number i of a SHEET becomes v (of bytes, shorts its lowest 8, 16 bits): 1.";
    private static final String COPIED =
        "n numbers of a SHEET, from i on, come to another one's (or its own) place j (as they were): n.";
    private static final String OUTSIDE = "-12 (n below 0, too).";
    private static final String BY_SHEET =
        "STEPS by a SHEET of a sort: from a place on, three by three (as of step()), n of them (0 .. 12)";
    private static final String CAME = "how many came (others are left out).";
    private static final String AHEAD = "-12: what stood ahead came.";
    private static final String LIES = "What lies at place i: 0 .. 11 CELLS, 12 .. 23 STEPS";
    private static final String OF_A_KIND =
        "taken for 0 .. 5 a STEP of that KIND (also of one that is one): its number";

    private EdgesOfHost() {
    }

    /** The numbers of a SHEET of 12: a dough that is rolled so thick shows nothing wrong. */
    private static void tells(Due due, int s, int... numbers) {
        for (int c = 0; c < 12; c++) {
            due.ask("roll(" + c + ", 0, " + 100 * numbers[c] + ")");
        }
        due.is("judge(0, " + s + ", 0)", -1);
    }

    // ---- promise 40

    @Edge(of = "Promise 40", says = ROW)
    static void aRowOfNoneAndOfForty(Due due) {
        for (int sort = 0; sort <= 2; sort++) {
            due.is("sheet(0, " + sort + ", 0)", 1);
            due.is("cell(0, 0, 1)", -12);
            due.is("sheet(0, " + sort + ", 1)", 1);
            due.is("cell(0, 0, 1)", 1);
            due.is("cell(0, 1, 1)", -12);
            due.is("sheet(0, " + sort + ", 40)", 1);
            due.is("cell(0, 39, 1)", 1);
            due.is("cell(0, 40, 1)", -12);
        }
    }

    @Edge(of = "Promise 40", says = ROW)
    static void allAreZero(Due due) {
        for (int sort = 0; sort <= 2; sort++) {
            due.is("sheet(1, " + sort + ", 12)", 1);
            due.is("judge(0, 1, 600)", -1);
            due.is("judge(0, 1, 599)", 0);
        }
    }

    @Edge(of = "Promise 40", says = ROW)
    static void allAreZeroOnceMore(Due due) {
        due.is("sheet(1, 2, 40)", 1);
        for (int i = 0; i < 40; i++) {
            due.is("cell(1, " + i + ", 9999)", 1);
        }
        due.is("sheet(1, 2, 2)", 1);
        due.is("sheet(1, 2, 40)", 1);
        for (int from = 0; from <= 28; from += 4) {
            due.is("sheet(0, 2, 12)", 1);
            due.is("copy(1, " + from + ", 0, 0, 12)", 12);
            due.is("judge(0, 0, 600)", -1);
        }
    }

    @Edge(of = "Promise 40", says = ROW)
    static void allAreZeroBehindAFilm(Due due) {
        due.is("film(0, 2)", 12);
        due.is("sheet(2, 2, 12)", 1);
        due.is("judge(0, 2, 600)", -1);
        due.is("judge(0, 2, 599)", 0);
    }

    @Edge(of = "Promise 40", says = MISSING)
    static void itIsMissingWhateverNIs(Due due) {
        for (int n : new int[] {0, 12, 40, 41, -1, Integer.MAX_VALUE, Integer.MIN_VALUE}) {
            due.is("sheet(0, 2, 5)", 1);
            due.is("sheet(0, -1, " + n + ")", 1);
            due.is("cell(0, 0, 1)", -11);
        }
        due.is("sheet(0, -1, 5)", 1);
    }

    @Edge(of = "Promise 40", says = NO_ROW)
    static void noSuchSheetForARow(Due due) {
        due.is("sheet(-1, 0, 5)", -2);
        due.is("sheet(4, 0, 5)", -2);
        due.is("sheet(4, -1, 5)", -2);
        due.is("sheet(2147483647, 0, 5)", -2);
        due.is("sheet(-2147483648, 0, 5)", -2);
    }

    @Edge(of = "Promise 40", says = NO_ROW)
    static void noSuchSort(Due due) {
        due.is("sheet(0, -2, 5)", -2);
        due.is("sheet(0, 3, 5)", -2);
        due.is("sheet(0, 3, -1)", -2);
        due.is("cell(0, 0, 1)", -11);
    }

    @Edge(of = "Promise 40", says = NO_ROW)
    static void aRowOf41(Due due) {
        due.is("sheet(0, 0, 41)", -2);
        due.is("sheet(0, 2, 2147483647)", -2);
        due.is("cell(0, 0, 1)", -11);
        due.is("sheet(0, 0, 40)", 1);
    }

    @Edge(of = "Promise 40", says = "-14.")
    static void aRowBelow0(Due due) {
        due.is("sheet(0, 0, -1)", -14);
        due.is("sheet(0, 2, -2147483648)", -14);
        due.is("cell(0, 0, 1)", -11);
        due.is("sheet(0, 1, 3)", 1);
        due.is("sheet(0, 2, -1)", -14);
        due.is("cell(0, 2, 1)", 1);
    }

    // ---- promise 41

    @Edge(of = "Promise 41", says = BECOMES)
    static void theFirstAndTheLastNumber(Due due) {
        due.sheetTells(0, 600, 600, 600, 600, 600, 600, 600, 600, 600, 600, 600, 600);
        due.is("cell(0, 0, 601)", 1);
        due.is("cell(0, 11, 602)", 1);
        tells(due, 0, 601, 600, 600, 600, 600, 600, 600, 600, 600, 600, 600, 602);
    }

    @Edge(of = "Promise 41", says = BECOMES)
    static void theLowest8Bits(Due due) {
        due.rollAll(0, 100);
        due.is("sheet(0, 0, 12)", 1);
        // as bytes: 127, -128, -1, 0, 1; THICK is 1
        int[][] rows = {{127, 126}, {128, 129}, {255, 2}, {256, 1}, {257, 0}, {-1, 2}, {-128, 129}, {-129, 126},
            {Integer.MAX_VALUE, 2}, {Integer.MIN_VALUE, 1}, {65535, 2}, {383, 126}};
        for (int[] row : rows) {
            for (int c = 0; c < 12; c++) {
                due.ask("cell(0, " + c + ", " + row[0] + ")");
            }
            due.is("judge(0, 0, " + row[1] + ")", -1);
            if (row[1] > 0) {
                due.is("judge(0, 0, " + (row[1] - 1) + ")", 0);
            }
        }
    }

    @Edge(of = "Promise 41", says = BECOMES)
    static void theLowest16Bits(Due due) {
        due.is("sheet(0, 1, 12)", 1);
        due.is("roll(0, 1, 2)", 100);
        // THICK of CELL 0 is 30000; 32767, and 98303 as a short
        for (int v : new int[] {32767, 98303}) {
            due.is("cell(0, 0, " + v + ")", 1);
            due.is("judge(0, 0, 2767)", -1);
            due.is("judge(0, 0, 2766)", 0);
        }
        // THICK of CELL 0 is 600; -1, 0, 1 as shorts
        due.is("roll(0, 1, 100)", 2);
        int[][] rows = {{65535, 601}, {65536, 600}, {65537, 599}, {-1, 601}, {-65536, 600}, {Integer.MAX_VALUE, 601},
            {Integer.MIN_VALUE, 600}};
        for (int[] row : rows) {
            due.is("cell(0, 0, " + row[0] + ")", 1);
            due.is("judge(0, 0, " + Math.max(600, row[1]) + ")", -1);
            due.is("judge(0, 0, " + (row[1] - 1) + ")", 0);
            due.is("judge(0, 0, 599)", row[1] > 599 ? 0 : 1);
        }
        // -32768 as a short
        due.is("cell(0, 0, 32768)", 1);
        due.is("judge(0, 0, 9999)", 0);
    }

    @Edge(of = "Promise 41", says = BECOMES)
    static void anIntIsWhole(Due due) {
        due.is("sheet(0, 2, 12)", 1);
        int[] far = {Integer.MAX_VALUE, Integer.MIN_VALUE, 65536 + 600, -65536 + 600, 256 * 256 * 256 + 600};
        for (int v : far) {
            due.is("film(0, 0)", 12);
            due.is("cell(0, 7, " + v + ")", 1);
            due.is("judge(0, 0, 9999)", 7);
        }
    }

    @Edge(of = "Promise 41", says = "BAD: SHEET")
    static void noSuchSheetOfACell(Due due) {
        due.is("cell(-1, 0, 0)", -2);
        due.is("cell(4, 0, 0)", -2);
        due.is("cell(4, -1, 0)", -2);
        due.is("cell(2147483647, 0, 0)", -2);
    }

    @Edge(of = "Promise 41", says = "-11")
    static void noNumberWhereASheetIsMissing(Due due) {
        due.is("cell(0, 0, 0)", -11);
        due.is("cell(0, -1, 0)", -11);
        due.is("cell(3, 40, 0)", -11);
    }

    @Edge(of = "Promise 41", says = "-12.")
    static void noSuchNumber(Due due) {
        due.is("sheet(0, 2, 12)", 1);
        due.is("cell(0, -1, 5)", -12);
        due.is("cell(0, 12, 5)", -12);
        due.is("cell(0, 2147483647, 5)", -12);
        due.is("cell(0, -2147483648, 5)", -12);
        due.is("judge(0, 0, 600)", -1);
    }

    // ---- promise 42

    /** SHEET 0 tells 601 .. 612. */
    private static void inARow(Due due) {
        due.is("sheet(0, 2, 12)", 1);
        for (int c = 0; c < 12; c++) {
            due.is("cell(0, " + c + ", " + (601 + c) + ")", 1);
        }
    }

    @Edge(of = "Promise 42", says = COPIED)
    static void noneAreCopied(Due due) {
        inARow(due);
        due.is("film(0, 1)", 12);
        due.is("copy(0, 0, 1, 0, 0)", 0);
        due.is("copy(0, 12, 1, 12, 0)", 0);
        due.is("judge(0, 1, 0)", -1);
    }

    @Edge(of = "Promise 42", says = COPIED)
    static void allAreCopied(Due due) {
        inARow(due);
        due.is("film(0, 1)", 12);
        due.is("copy(0, 0, 1, 0, 12)", 12);
        tells(due, 1, 601, 602, 603, 604, 605, 606, 607, 608, 609, 610, 611, 612);
    }

    @Edge(of = "Promise 42", says = COPIED)
    static void theFirstAndTheLastAreCopied(Due due) {
        inARow(due);
        due.is("film(0, 1)", 12);
        due.is("copy(0, 0, 1, 11, 1)", 1);
        due.is("copy(0, 11, 1, 0, 1)", 1);
        tells(due, 1, 612, 600, 600, 600, 600, 600, 600, 600, 600, 600, 600, 601);
    }

    @Edge(of = "Promise 42", says = COPIED)
    static void toItsOwnPlacesBehind(Due due) {
        inARow(due);
        due.is("copy(0, 0, 0, 1, 11)", 11);
        tells(due, 0, 601, 601, 602, 603, 604, 605, 606, 607, 608, 609, 610, 611);
    }

    @Edge(of = "Promise 42", says = COPIED)
    static void toItsOwnPlacesAhead(Due due) {
        inARow(due);
        due.is("copy(0, 1, 0, 0, 11)", 11);
        tells(due, 0, 602, 603, 604, 605, 606, 607, 608, 609, 610, 611, 612, 612);
    }

    @Edge(of = "Promise 42", says = COPIED)
    static void fortyAreCopied(Due due) {
        due.is("sheet(0, 0, 40)", 1);
        due.is("sheet(1, 0, 40)", 1);
        due.is("copy(0, 0, 1, 0, 40)", 40);
        due.is("copy(0, 0, 1, 0, 41)", -12);
    }

    @Edge(of = "Promise 42", says = "BAD: SHEETS")
    static void noSuchSheetsToCopy(Due due) {
        due.is("sheet(0, 2, 3)", 1);
        due.is("copy(-1, 0, 0, 0, 1)", -2);
        due.is("copy(4, 0, 0, 0, 1)", -2);
        due.is("copy(0, 0, -1, 0, 1)", -2);
        due.is("copy(0, 0, 4, 0, 1)", -2);
        due.is("copy(1, 0, 4, 0, 1)", -2);
        due.is("copy(4, 0, 1, 0, -1)", -2);
    }

    @Edge(of = "Promise 42", says = "-11")
    static void missingSheetsToCopy(Due due) {
        due.is("sheet(0, 2, 3)", 1);
        due.is("copy(0, 0, 1, 0, 1)", -11);
        due.is("copy(1, 0, 0, 0, 1)", -11);
        due.is("copy(1, 0, 1, 0, 1)", -11);
        due.is("copy(1, 0, 2, 0, 0)", -11);
        due.is("copy(0, -1, 1, 0, -1)", -11);
    }

    @Edge(of = "Promise 42", says = "-13: unlike sorts")
    static void unlikeSorts(Due due) {
        for (int s = 0; s <= 2; s++) {
            due.is("sheet(" + s + ", " + s + ", 3)", 1);
        }
        for (int s = 0; s <= 2; s++) {
            for (int other = 0; other <= 2; other++) {
                due.is("copy(" + s + ", 0, " + other + ", 0, 3)", s == other ? 3 : -13);
                due.is("copy(" + s + ", 0, " + other + ", 0, 4)", s == other ? -12 : -13);
            }
        }
    }

    @Edge(of = "Promise 42", says = OUTSIDE)
    static void placesOutside(Due due) {
        due.is("sheet(0, 2, 5)", 1);
        due.is("sheet(1, 2, 4)", 1);
        due.is("copy(0, 0, 1, 0, 4)", 4);
        due.is("copy(0, 0, 1, 0, 5)", -12);
        due.is("copy(0, 1, 1, 0, 4)", 4);
        due.is("copy(0, 2, 1, 0, 4)", -12);
        due.is("copy(0, 0, 1, 1, 4)", -12);
        due.is("copy(0, 0, 1, 1, 3)", 3);
        due.is("copy(0, -1, 1, 0, 1)", -12);
        due.is("copy(0, 0, 1, -1, 1)", -12);
        due.is("copy(0, 5, 1, 0, 0)", 0);
        due.is("copy(0, 6, 1, 0, 0)", -12);
        due.is("copy(0, 0, 1, 4, 0)", 0);
        due.is("copy(0, 0, 1, 5, 0)", -12);
        due.is("copy(0, -1, 1, 0, 0)", -12);
    }

    @Edge(of = "Promise 42", says = OUTSIDE)
    static void farOutside(Due due) {
        due.is("sheet(0, 2, 5)", 1);
        due.is("copy(0, 2147483647, 0, 0, 1)", -12);
        due.is("copy(0, 0, 0, 2147483647, 1)", -12);
        due.is("copy(0, 2147483647, 0, 0, 2147483647)", -12);
        due.is("copy(0, 1, 0, 1, 2147483647)", -12);
        due.is("copy(0, -2147483648, 0, 0, 1)", -12);
        due.is("copy(0, 0, 0, -2147483648, 1)", -12);
    }

    @Edge(of = "Promise 42", says = OUTSIDE)
    static void fewerThanNone(Due due) {
        due.is("sheet(0, 2, 5)", 1);
        due.is("copy(0, 0, 0, 0, -1)", -12);
        due.is("copy(0, 3, 0, 3, -1)", -12);
        due.is("copy(0, 0, 0, 0, -2147483648)", -12);
    }

    // ---- promise 43

    @Edge(of = "Promise 43", says = BY_SHEET)
    static void noStepsByASheet(Due due) {
        due.is("sheet(0, 2, 0)", 1);
        due.is("stepsBy(0, 2, 0, 0)", 0);
        due.is("count(3)", 0);
    }

    @Edge(of = "Promise 43", says = BY_SHEET)
    static void twelveStepsByASheet(Due due) {
        due.is("sheet(0, 0, 40)", 1);
        for (int s = 0; s < 12; s++) {
            due.is("cell(0, " + (4 + 3 * s) + ", " + s % 6 + ")", 1);
            due.is("cell(0, " + (5 + 3 * s) + ", " + s % 10 + ")", 1);
            due.is("cell(0, " + (6 + 3 * s) + ", " + (1 + s % 9) + ")", 1);
        }
        // the last number is the last of the SHEET
        due.is("stepsBy(0, 0, 4, 12)", 12);
        for (int s = 0; s < 12; s++) {
            due.is("stepTold(" + s + ", 0)", s % 6);
            due.is("stepTold(" + s + ", 1)", s % 10);
            due.is("stepTold(" + s + ", 2)", 1 + s % 9);
        }
    }

    @Edge(of = "Promise 43", says = CAME)
    static void badOnesAreLeftOut(Due due) {
        due.sheetTells(0, 6, 0, 1, 1, 2, 3, -1, 0, 1, 2, 10, 3, 3, 4, 0, 4, -1, 5, 5, 5, 10, 5, 9, 9);
        due.is("stepsBy(0, 2, 0, 8)", 2);
        due.is("count(3)", 2);
        due.is("stepTold(0, 0)", 1);
        due.is("stepTold(1, 0)", 5);
        due.is("stepTold(1, 2)", 9);
    }

    @Edge(of = "Promise 43", says = CAME)
    static void allAreLeftOut(Due due) {
        due.is("sheet(0, 2, 6)", 1);
        due.is("stepsBy(0, 2, 0, 2)", 0);
        due.is("count(3)", 0);
    }

    @Edge(of = "Promise 43", says = CAME)
    static void theyAreFull(Due due) {
        for (int s = 0; s < 11; s++) {
            due.steps("0, 0, 1");
        }
        due.sheetTells(0, 1, 1, 1, 2, 2, 2, 3, 3, 3);
        due.is("stepsBy(0, 2, 0, 3)", 1);
        due.is("count(3)", 12);
        due.is("stepTold(11, 0)", 1);
        due.is("stepsBy(0, 2, 0, 3)", 0);
    }

    @Edge(of = "Promise 43", says = "BAD: SHEET, sort, n")
    static void noSuchSheetOfSteps(Due due) {
        due.is("stepsBy(-1, 2, 0, 1)", -2);
        due.is("stepsBy(4, 2, 0, 1)", -2);
        due.is("stepsBy(4, 2, 0, 0)", -2);
    }

    @Edge(of = "Promise 43", says = "BAD: SHEET, sort, n")
    static void noSuchSortOfSteps(Due due) {
        due.is("sheet(0, 2, 3)", 1);
        due.is("stepsBy(0, -1, 0, 1)", -2);
        due.is("stepsBy(0, 3, 0, 1)", -2);
        due.is("stepsBy(1, -1, 0, 1)", -2);
    }

    @Edge(of = "Promise 43", says = "BAD: SHEET, sort, n")
    static void noSuchManyStepsByASheet(Due due) {
        due.is("sheet(0, 2, 40)", 1);
        due.is("stepsBy(0, 2, 0, -1)", -2);
        due.is("stepsBy(0, 2, 0, 13)", -2);
        due.is("stepsBy(0, 2, 0, 2147483647)", -2);
        due.is("stepsBy(0, 2, 0, 12)", 0);
    }

    @Edge(of = "Promise 43", says = "-11")
    static void stepsByAMissingSheet(Due due) {
        due.is("stepsBy(0, 2, 0, 1)", -11);
        due.is("stepsBy(0, 2, -1, 0)", -11);
        due.is("sheet(0, 2, 3)", 1);
        due.is("sheet(0, -1, 3)", 1);
        due.is("stepsBy(0, 2, 0, 1)", -11);
    }

    @Edge(of = "Promise 43", says = "-13")
    static void stepsBySheetsOfAnotherSort(Due due) {
        for (int sort = 0; sort <= 2; sort++) {
            due.is("sheet(0, " + sort + ", 3)", 1);
            for (int as = 0; as <= 2; as++) {
                due.is("stepsBy(0, " + as + ", 0, 1)", as == sort ? 0 : -13);
                due.is("stepsBy(0, " + as + ", 1, 1)", as == sort ? -12 : -13);
                due.is("stepsBy(0, " + as + ", 0, 0)", as == sort ? 0 : -13);
            }
        }
    }

    @Edge(of = "Promise 43", says = AHEAD)
    static void whatStoodAheadCame(Due due) {
        due.sheetTells(0, 1, 1, 1, 2, 2, 2, 3, 3);
        due.is("stepsBy(0, 2, 0, 3)", -12);
        due.is("count(3)", 2);
        due.is("stepTold(1, 0)", 2);
        due.is("stepsBy(0, 2, 3, 12)", -12);
        due.is("count(3)", 3);
        due.is("stepTold(2, 0)", 2);
    }

    @Edge(of = "Promise 43", says = AHEAD)
    static void nothingStoodAhead(Due due) {
        due.sheetTells(0, 1, 1, 1, 2, 2);
        due.is("stepsBy(0, 2, 3, 1)", -12);
        due.is("stepsBy(0, 2, 4, 1)", -12);
        due.is("stepsBy(0, 2, 5, 1)", -12);
        due.is("stepsBy(0, 2, -1, 1)", -12);
        due.is("stepsBy(0, 2, -3, 2)", -12);
        due.is("stepsBy(0, 2, 2147483647, 1)", -12);
        due.is("stepsBy(0, 2, -2147483648, 12)", -12);
        due.is("count(3)", 0);
        due.is("stepsBy(0, 2, 2, 1)", 1);
        due.is("stepsBy(0, 2, 0, 1)", 1);
        due.is("count(3)", 2);
    }

    // ---- promise 44

    @Edge(of = "Promise 44", says = LIES)
    static void theFirstAndTheLastPlaces(Due due) {
        due.is("roll(0, 0, 1)", 60000);
        due.is("roll(11, 0, 99999)", 60000);
        due.is("taken(0, 6)", 1);
        due.is("taken(11, 6)", 99999);
        for (int s = 0; s < 12; s++) {
            due.steps("1, 1, 1");
        }
        due.is("taken(12, 1)", 0);
        due.is("taken(23, 1)", 11);
        due.is("taken(24, 1)", -12);
    }

    @Edge(of = "Promise 44", says = OF_A_KIND)
    static void whatIsOneAsWell(Due due) {
        int[][] also = {{0}, {0, 1}, {0, 1, 2}, {0, 3}, {0, 4}, {0, 3, 5}};
        for (int kind = 0; kind <= 5; kind++) {
            due.steps(kind + ", 1, 1");
            for (int as = 0; as <= 5; as++) {
                boolean isOne = false;
                for (int one : also[kind]) {
                    isOne |= one == as;
                }
                due.is("taken(" + (12 + kind) + ", " + as + ")", isOne ? kind : -13);
            }
        }
    }

    @Edge(of = "Promise 44", says = "6 a CELL: MUCH as it is rolled.")
    static void muchAsItIsRolled(Due due) {
        due.steps("5, 9, 1");
        due.is("taken(0, 6)", 60000);
        due.is("roll(0, 0, 1)", 60000);
        due.is("taken(0, 6)", 1);
    }

    @Edge(of = "Promise 44", says = "BAD: kind")
    static void noSuchKind(Due due) {
        due.is("taken(0, -1)", -2);
        due.is("taken(0, 7)", -2);
        due.is("taken(24, 7)", -2);
        due.is("taken(0, 2147483647)", -2);
        due.is("taken(0, -2147483648)", -2);
    }

    @Edge(of = "Promise 44", says = "-12: i")
    static void noSuchPlaceToTakeFrom(Due due) {
        due.is("taken(-1, 6)", -12);
        due.is("taken(24, 0)", -12);
        due.is("taken(2147483647, 0)", -12);
        due.is("taken(-2147483648, 0)", -12);
    }

    @Edge(of = "Promise 44", says = "-11: nothing lies there")
    static void nothingLiesThere(Due due) {
        due.is("taken(12, 0)", -11);
        due.is("taken(23, 6)", -11);
        due.steps("1, 1, 1");
        due.is("taken(12, 0)", 0);
        due.is("taken(13, 0)", -11);
        due.is("taken(13, 6)", -11);
        due.is("forget()", 0);
        due.is("taken(12, 0)", -11);
    }

    @Edge(of = "Promise 44", says = "-13.")
    static void takenForWhatItIsNot(Due due) {
        for (int kind = 0; kind <= 5; kind++) {
            due.is("taken(0, " + kind + ")", -13);
            due.is("taken(11, " + kind + ")", -13);
        }
        due.steps("0, 1, 1");
        due.is("taken(12, 6)", -13);
        due.is("taken(12, 5)", -13);
        due.is("taken(12, 1)", -13);
        due.is("taken(12, 0)", 0);
    }
}
