/** Edges that promises 21 to 28 name. */
final class EdgesOfShowing {
    private static final String MORE_THAN_OFF =
        "The first CELL whose THICK is more than off (0 .. 9999) from what a SHEET tells (12 numbers)";
    private static final String SIZE = "BAD: its size";
    private static final String FILMED = "A SHEET truly becomes the THICK of all CELLS (ints): how many.";
    private static final String SERVING = "Numbers 0 .. 9 (bits) that what 0 WET, 1 SALT, 2 WARM could be so "
        + "that all THICK is as a SHEET tells.";
    private static final String WHICH = "TEXTS (bits), were they THE LAW, by which all THICK is as a SHEET tells.";
    private static final String FIRST_FAULT =
        "The first of n STEPS without which all THICK would be as a SHEET tells";
    private static final String SHEET_REFUSED = "BAD, -11, BAD as of judge()";
    private static final String TENTH = "The CELL by which, had it a tenth (cut) more of MUCH as it is rolled, "
        + "SPREAD would differ most from what it is";
    private static final String HOW_MANY =
        "How many CELLS, COOKED for so many seconds (0 .. 9999), are 0 raw, 1 done, 2 mush.";
    private static final String FEWEST = "The fewest seconds for which, COOKED, most CELLS are done.";

    private EdgesOfShowing() {
    }

    /** What a test that is asked by this call, of n and a SHEET, refuses. */
    private static void noSuchSheet(Due due, String call) {
        due.is(String.format(call, 0, -1), -2);
        due.is(String.format(call, 0, 4), -2);
        due.is(String.format(call, 0, Integer.MAX_VALUE), -2);
        due.is(String.format(call, 0, Integer.MIN_VALUE), -2);
    }

    private static void sheetIsMissing(Due due, String call) {
        due.is(String.format(call, 0, 3), -11);
        due.is("sheet(3, 1, 12)", 1);
        due.same("it is there", due.ask(String.format(call, 0, 3)) >= -1 ? 1 : 0, 1);
        due.is("sheet(3, -1, 12)", 1);
        due.is(String.format(call, 0, 3), -11);
    }

    private static void sheetOfAnotherSize(Due due, String call) {
        for (int size : new int[] {0, 1, 11, 13, 40}) {
            due.is("sheet(2, 2, " + size + ")", 1);
            due.is(String.format(call, 0, 2), -2);
        }
        due.is("sheet(2, 2, 12)", 1);
        due.same("it is of 12", due.ask(String.format(call, 0, 2)) >= -1 ? 1 : 0, 1);
    }

    private static void noSoManySteps(Due due, String call) {
        due.is("sheet(0, 2, 12)", 1);
        due.is(String.format(call, -1, 0), -5);
        due.is(String.format(call, 1, 0), -5);
        due.is(String.format(call, 13, 0), -5);
        due.is(String.format(call, 1, 4), -5);
        due.steps("1, 1, 1");
        due.same("there are so many", due.ask(String.format(call, 1, 0)) >= -1 ? 1 : 0, 1);
        due.is(String.format(call, 2, 0), -5);
    }

    // ---- promise 21

    @Edge(of = "Promise 21", says = MORE_THAN_OFF)
    static void justSoFarOff(Due due) {
        due.sheetTells(1, 600, 600, 600, 650, 600, 540, 600, 600, 600, 600, 600, 600);
        due.is("judge(0, 1, 49)", 3);
        due.is("judge(0, 1, 50)", 5);
        due.is("judge(0, 1, 59)", 5);
        due.is("judge(0, 1, 60)", -1);
    }

    @Edge(of = "Promise 21", says = MORE_THAN_OFF)
    static void notOffAtAllAndMost(Due due) {
        due.sheetTells(1, 600, 600, 600, 600, 600, 600, 600, 600, 600, 600, 600, 601);
        due.is("judge(0, 1, 0)", 11);
        due.is("judge(0, 1, 1)", -1);
        due.is("cell(1, 11, 10599)", 1);
        due.is("judge(0, 1, 9998)", 11);
        due.is("judge(0, 1, 9999)", -1);
        due.is("cell(1, 0, 10600)", 1);
        due.is("judge(0, 1, 9999)", 0);
    }

    @Edge(of = "Promise 21", says = MORE_THAN_OFF)
    static void farthestOff(Due due) {
        due.sheetTells(1, 600, 600, 600, 600, 600, 600, 600, 600, 600, 600, 600, 600);
        due.is("cell(1, 4, -2147483648)", 1);
        due.is("judge(0, 1, 9999)", 4);
        due.is("cell(1, 4, 2147483647)", 1);
        due.is("judge(0, 1, 9999)", 4);
        due.is("cell(1, 4, -9399)", 1);
        due.is("judge(0, 1, 9999)", -1);
        due.is("cell(1, 4, -9400)", 1);
        due.is("judge(0, 1, 9999)", 4);
    }

    @Edge(of = "Promise 21", says = MORE_THAN_OFF)
    static void whatBytesAndShortsTell(Due due) {
        due.rollAll(0, 12700);
        due.is("sheet(0, 0, 12)", 1);
        due.is("sheet(1, 1, 12)", 1);
        for (int c = 0; c < 12; c++) {
            due.is("cell(0, " + c + ", " + (127 + 256 * c) + ")", 1);
            due.is("cell(1, " + c + ", " + (127 + 65536 * c) + ")", 1);
        }
        due.is("judge(0, 0, 0)", -1);
        due.is("judge(0, 1, 0)", -1);
        // 128 is -128 as a byte, 32768 is -32768 as a short
        due.is("cell(0, 9, 128)", 1);
        due.is("judge(0, 0, 254)", 9);
        due.is("judge(0, 0, 255)", -1);
        due.is("cell(1, 9, 32768)", 1);
        due.is("judge(0, 1, 9999)", 9);
    }

    @Edge(of = "Promise 21", says = "-1: none.")
    static void noCellIsOff(Due due) {
        due.is("film(0, 1)", 12);
        due.is("judge(0, 1, 0)", -1);
        due.is("judge(0, 1, 9999)", -1);
    }

    @Edge(of = "Promise 21", says = "-5: n")
    static void judgedBehindSoMany(Due due) {
        noSoManySteps(due, "judge(%d, %d, 9999)");
    }

    @Edge(of = "Promise 21", says = "BAD: SHEET")
    static void noSuchSheetToJudgeBy(Due due) {
        noSuchSheet(due, "judge(%d, %d, 0)");
    }

    @Edge(of = "Promise 21", says = "-11")
    static void judgedByWhatIsMissing(Due due) {
        sheetIsMissing(due, "judge(%d, %d, 0)");
    }

    @Edge(of = "Promise 21", says = SIZE)
    static void judgedByAnotherSize(Due due) {
        sheetOfAnotherSize(due, "judge(%d, %d, 0)");
    }

    @Edge(of = "Promise 21", says = "-7: off.")
    static void offBelow0AndAbove9999(Due due) {
        due.is("sheet(0, 2, 12)", 1);
        due.is("judge(0, 0, -1)", -7);
        due.is("judge(0, 0, 10000)", -7);
        due.is("judge(0, 0, 2147483647)", -7);
        due.is("judge(0, 0, -2147483648)", -7);
        due.is("sheet(0, 2, 11)", 1);
        due.is("judge(0, 0, -1)", -2);
    }

    // ---- promise 22

    @Edge(of = "Promise 22", says = FILMED)
    static void aMissingSheetIsFilmed(Due due) {
        due.is("film(0, 3)", 12);
        due.is("cell(3, 11, 600)", 1);
        due.is("cell(3, 12, 600)", -12);
        due.is("judge(0, 3, 0)", -1);
    }

    @Edge(of = "Promise 22", says = FILMED)
    static void aSheetOfAnotherSortAndSizeIsFilmed(Due due) {
        due.is("roll(0, 0, 99999)", 60000);
        due.is("roll(0, 1, 1)", 100);
        for (int size : new int[] {0, 11, 13, 40}) {
            due.is("sheet(2, 0, " + size + ")", 1);
            due.is("film(0, 2)", 12);
            due.is("judge(0, 2, 0)", -1);
            due.is("cell(2, 12, 0)", -12);
        }
        // ints: 99999 is told, and steps by ints can be taken from it
        due.is("stepsBy(2, 2, 0, 1)", 0);
        due.is("stepsBy(2, 0, 0, 1)", -13);
    }

    @Edge(of = "Promise 22", says = FILMED)
    static void aFilmIsThatOfItsTime(Due due) {
        due.is("film(0, 0)", 12);
        due.is("roll(5, 0, 50000)", 60000);
        due.is("judge(0, 0, 99)", 5);
        due.is("judge(0, 0, 100)", -1);
    }

    @Edge(of = "Promise 22", says = "-5: n")
    static void filmedBehindSoMany(Due due) {
        due.is("film(-1, 0)", -5);
        due.is("film(1, 0)", -5);
        due.is("film(1, 4)", -5);
        due.is("cell(0, 0, 1)", -11);
    }

    @Edge(of = "Promise 22", says = "BAD: SHEET.")
    static void noSuchSheetToFilmOn(Due due) {
        noSuchSheet(due, "film(%d, %d)");
    }

    // ---- promise 23

    @Edge(of = "Promise 23", says = SERVING)
    static void theFirstAndTheLastNumberServe(Due due) {
        due.law("(thick = 300) * wet + 1", "0", "0");
        due.is("roll(0, 0, 30000)", 60000);
        due.steps("1, 9, 1");
        due.is("set(0, 0)", 5);
        due.is("film(1, 0)", 12);
        due.is("set(0, 9)", 0);
        due.is("film(1, 1)", 12);
        due.is("serves(1, 0, 0)", 1);
        due.is("serves(1, 1, 0)", 512);
        due.is("count(0)", 9);
    }

    @Edge(of = "Promise 23", says = SERVING)
    static void allNumbersServe(Due due) {
        due.is("film(0, 0)", 12);
        for (int what = 0; what <= 2; what++) {
            due.is("serves(0, 0, " + what + ")", 1023);
        }
    }

    @Edge(of = "Promise 23", says = SERVING)
    static void noNumberServes(Due due) {
        due.is("sheet(0, 2, 12)", 1);
        for (int what = 0; what <= 2; what++) {
            due.is("serves(0, 0, " + what + ")", 0);
        }
    }

    @Edge(of = "Promise 23", says = SERVING)
    static void oneCellThatIsNotAsTold(Due due) {
        due.is("film(0, 0)", 12);
        due.is("cell(0, 11, 601)", 1);
        due.is("serves(0, 0, 0)", 0);
        due.is("cell(0, 11, 600)", 1);
        due.is("cell(0, 0, 599)", 1);
        due.is("serves(0, 0, 0)", 0);
    }

    @Edge(of = "Promise 23", says = SERVING)
    static void numbersOfWarmFromOneOn(Due due) {
        // STIFF 42 is what is drawn from then on, unless a rest takes it
        due.law("(thick = 157) * stiff + 1", "0", "0");
        due.is("roll(0, 0, 30000)", 60000);
        due.steps("1, 9, 9", "0, 6, 1", "1, 9, 9");
        due.is("set(2, 6)", 5);
        due.is("film(3, 0)", 12);
        due.is("serves(3, 0, 2)", 0b1111000000);
    }

    @Edge(of = "Promise 23", says = "-5: n")
    static void servedBehindSoMany(Due due) {
        noSoManySteps(due, "serves(%d, %d, 0)");
    }

    @Edge(of = "Promise 23", says = SHEET_REFUSED)
    static void noSuchSheetToServe(Due due) {
        noSuchSheet(due, "serves(%d, %d, 0)");
    }

    @Edge(of = "Promise 23", says = SHEET_REFUSED)
    static void aMissingSheetToServe(Due due) {
        sheetIsMissing(due, "serves(%d, %d, 0)");
    }

    @Edge(of = "Promise 23", says = SHEET_REFUSED)
    static void aSheetOfAnotherSizeToServe(Due due) {
        sheetOfAnotherSize(due, "serves(%d, %d, 0)");
    }

    @Edge(of = "Promise 23", says = "-7: what.")
    static void whatServes(Due due) {
        due.is("sheet(0, 2, 12)", 1);
        due.is("serves(0, 0, -1)", -7);
        due.is("serves(0, 0, 3)", -7);
        due.is("serves(0, 0, 2147483647)", -7);
        due.is("sheet(0, 2, 13)", 1);
        due.is("serves(0, 0, 3)", -2);
    }

    // ---- promise 24

    @Edge(of = "Promise 24", says = WHICH)
    static void theFirstAndTheLastText(Due due) {
        due.is("roll(0, 0, 30000)", 60000);
        for (int t = 1; t <= 5; t++) {
            due.text("draw 1 + (thick = 300) * " + t + " ; tears 0 ; sticks 0 ;", t);
        }
        due.steps("1, 9, 1");
        for (int t = 0; t <= 5; t++) {
            due.ask("force(" + t + ")");
            due.is("film(1, 0)", 12);
            due.is("which(1, 0)", 1 << t);
        }
        due.is("count(5)", 5);
    }

    @Edge(of = "Promise 24", says = WHICH)
    static void allTextsAndNone(Due due) {
        due.is("film(0, 0)", 12);
        due.is("which(0, 0)", 1);
        for (int t = 1; t <= 5; t++) {
            due.text("draw " + t + " ; tears 0 ; sticks 0 ;", t);
        }
        due.is("which(0, 0)", 63);
        due.is("cell(0, 11, 601)", 1);
        due.is("which(0, 0)", 0);
    }

    @Edge(of = "Promise 24", says = "-5: n")
    static void whichBehindSoMany(Due due) {
        noSoManySteps(due, "which(%d, %d)");
    }

    @Edge(of = "Promise 24", says = SHEET_REFUSED)
    static void noSuchSheetForTexts(Due due) {
        noSuchSheet(due, "which(%d, %d)");
    }

    @Edge(of = "Promise 24", says = SHEET_REFUSED)
    static void aMissingSheetForTexts(Due due) {
        sheetIsMissing(due, "which(%d, %d)");
    }

    @Edge(of = "Promise 24", says = SHEET_REFUSED)
    static void aSheetOfAnotherSizeForTexts(Due due) {
        sheetOfAnotherSize(due, "which(%d, %d)");
    }

    // ---- promise 25

    @Edge(of = "Promise 25", says = FIRST_FAULT)
    static void theFirstAndTheLastStepAtFault(Due due) {
        due.steps("1, 1, 1", "1, 9, 1");
        due.is("film(1, 0)", 12);
        due.is("fault(2, 0)", 1);
        due.is("forget()", 1);
        due.is("forget()", 0);
        due.steps("1, 9, 1", "1, 1, 1");
        due.is("fault(2, 0)", 0);
    }

    @Edge(of = "Promise 25", says = FIRST_FAULT)
    static void theTwelfthStepIsAtFault(Due due) {
        due.is("film(0, 0)", 12);
        for (int s = 0; s < 11; s++) {
            due.steps("4, 1, 1");
        }
        due.steps("1, 9, 1");
        due.is("fault(12, 0)", 11);
        // behind eleven all is as told without any of them
        due.is("fault(11, 0)", 0);
    }

    @Edge(of = "Promise 25", says = FIRST_FAULT)
    static void whatIsBehindNStepsIsNotAtFault(Due due) {
        due.steps("1, 1, 1", "1, 1, 1");
        due.is("film(0, 0)", 12);
        due.is("fault(1, 0)", 0);
        due.is("fault(2, 0)", -1);
        due.is("count(3)", 2);
    }

    @Edge(of = "Promise 25", says = "-1: none.")
    static void noStepIsAtFault(Due due) {
        due.is("film(0, 0)", 12);
        due.is("fault(0, 0)", -1);
        due.steps("1, 1, 1", "1, 1, 1");
        due.is("fault(0, 0)", -1);
        // all is as told with both, but not without one
        due.is("film(2, 0)", 12);
        due.is("fault(2, 0)", -1);
    }

    @Edge(of = "Promise 25", says = "-5: n")
    static void atFaultBehindSoMany(Due due) {
        noSoManySteps(due, "fault(%d, %d)");
    }

    @Edge(of = "Promise 25", says = SHEET_REFUSED)
    static void noSuchSheetForFaults(Due due) {
        noSuchSheet(due, "fault(%d, %d)");
    }

    @Edge(of = "Promise 25", says = SHEET_REFUSED)
    static void aMissingSheetForFaults(Due due) {
        sheetIsMissing(due, "fault(%d, %d)");
    }

    @Edge(of = "Promise 25", says = SHEET_REFUSED)
    static void aSheetOfAnotherSizeForFaults(Due due) {
        sheetOfAnotherSize(due, "fault(%d, %d)");
    }

    // ---- promise 26

    private static void rollThick(Due due, int c, int much) {
        due.ask("roll(" + c + ", 0, " + much + ")");
    }

    @Edge(of = "Promise 26", says = TENTH)
    static void theLastCellMatters(Due due) {
        rollThick(due, 11, 61000);
        due.is("uneven(0, 0)", 11);
        due.is("uneven(0, 1)", 61);
    }

    @Edge(of = "Promise 26", says = TENTH)
    static void aTenthThatIsNothing(Due due) {
        due.rollAll(0, 9);
        due.rollAll(1, 1);
        due.is("uneven(0, 0)", 0);
        due.is("uneven(0, 1)", 0);
        rollThick(due, 7, 10);
        // 11 instead of 10
        due.is("uneven(0, 0)", 7);
        due.is("uneven(0, 1)", 1);
        rollThick(due, 7, 19);
        due.is("uneven(0, 1)", 1);
        rollThick(due, 7, 20);
        due.is("uneven(0, 1)", 2);
    }

    @Edge(of = "Promise 26", says = TENTH)
    static void aTenthOfTheMost(Due due) {
        due.is("roll(3, 1, 1)", 100);
        rollThick(due, 3, 99999);
        due.is("uneven(0, 0)", 3);
        due.is("uneven(0, 1)", 9999);
        due.is("taken(3, 6)", 99999);
    }

    @Edge(of = "Promise 26", says = TENTH)
    static void spreadMayBeLess(Due due) {
        // THICK 9, and a tenth of it is nothing; CELL 5: 7991 by 999 is 7, 8790 by 999 is 8
        due.rollAll(0, 9);
        due.rollAll(1, 1);
        due.is("roll(5, 1, 999)", 1);
        rollThick(due, 5, 7991);
        due.is("state(0, 2)", 2);
        due.is("uneven(0, 0)", 5);
        due.is("uneven(0, 1)", 1);
    }

    @Edge(of = "Promise 26", says = "of like ones the first (what 0)")
    static void ofLikeCellsTheFirst(Due due) {
        due.is("uneven(0, 0)", 0);
        rollThick(due, 0, 59000);
        // SPREAD 10; with a tenth of CELL 0, 649, it is 49, with one of another, 660, 70
        due.is("uneven(0, 0)", 1);
        due.is("uneven(0, 1)", 60);
    }

    @Edge(of = "Promise 26", says = "by how much (1).")
    static void byNothing(Due due) {
        due.rollAll(0, 1);
        due.is("uneven(0, 1)", 0);
        due.is("uneven(0, 0)", 0);
    }

    @Edge(of = "Promise 26", says = "-5: n")
    static void unevenBehindSoMany(Due due) {
        due.is("uneven(1, 0)", -5);
        due.is("uneven(-1, 0)", -5);
        due.is("uneven(1, 2)", -5);
    }

    @Edge(of = "Promise 26", says = "-7: what.")
    static void whatIsUneven(Due due) {
        due.is("uneven(0, -1)", -7);
        due.is("uneven(0, 2)", -7);
        due.is("uneven(0, 2147483647)", -7);
    }

    // ---- promise 27

    @Edge(of = "Promise 27", says = HOW_MANY)
    static void noSecondsAndMost(Due due) {
        due.is("cooks(0, 0, 0)", 12);
        due.is("cooks(0, 0, 1)", 0);
        due.is("cooks(0, 0, 2)", 0);
        due.is("cooks(0, 9999, 0)", 0);
        due.is("cooks(0, 9999, 2)", 12);
        due.is("roll(0, 1, 1)", 100);
        due.is("roll(1, 1, 6)", 100);
        due.is("roll(2, 1, 9)", 100);
        // THICK 60000, 10000, 6666
        due.is("cooks(0, 9999, 0)", 2);
        due.is("cooks(0, 9999, 1)", 1);
        due.is("cooks(0, 9999, 2)", 9);
    }

    @Edge(of = "Promise 27", says = HOW_MANY)
    static void allCellsAreOfOneKind(Due due) {
        for (int[] row : new int[][] {{599, 12, 0, 0}, {600, 0, 12, 0}, {1199, 0, 12, 0}, {1200, 0, 0, 12}}) {
            for (int what = 0; what <= 2; what++) {
                due.is("cooks(0, " + row[0] + ", " + what + ")", row[1 + what]);
            }
        }
    }

    @Edge(of = "Promise 27", says = "-5: n")
    static void cookedBehindSoMany(Due due) {
        due.is("cooks(1, 300, 0)", -5);
        due.is("cooks(-1, 300, 0)", -5);
        due.is("cooks(1, -1, 3)", -5);
    }

    @Edge(of = "Promise 27", says = "-7: seconds, what.")
    static void secondsBelow0AndAbove9999(Due due) {
        due.is("cooks(0, -1, 0)", -7);
        due.is("cooks(0, 10000, 0)", -7);
        due.is("cooks(0, 2147483647, 0)", -7);
        due.is("cooks(0, -2147483648, 0)", -7);
    }

    @Edge(of = "Promise 27", says = "-7: seconds, what.")
    static void whatIsCooked(Due due) {
        due.is("cooks(0, 300, -1)", -7);
        due.is("cooks(0, 300, 3)", -7);
        due.is("cooks(0, 300, 2147483647)", -7);
    }

    // ---- promise 28

    @Edge(of = "Promise 28", says = FEWEST)
    static void allAreDoneAtOnce(Due due) {
        due.is("pot(0)", 600);
        for (int c = 0; c < 11; c++) {
            rollThick(due, c, 30100);
        }
        // 301 .. 601 are less than twice that
        due.is("pot(0)", 600);
        due.rollAll(0, 30000);
        rollThick(due, 11, 60000);
        // at 600 the eleven are mush
        due.is("pot(0)", 300);
    }

    @Edge(of = "Promise 28", says = FEWEST)
    static void ofLikeSecondsTheFewest(Due due) {
        for (int c = 0; c < 6; c++) {
            rollThick(due, c, 20000);
        }
        due.is("pot(0)", 200);
        rollThick(due, 6, 20000);
        due.is("pot(0)", 200);
        due.again();
        for (int c = 6; c < 12; c++) {
            rollThick(due, c, 20000);
        }
        due.is("pot(0)", 200);
    }

    @Edge(of = "Promise 28", says = FEWEST)
    static void noCellCanBeDone(Due due) {
        due.rollAll(0, 99);
        due.is("pot(0)", 0);
        rollThick(due, 11, 100);
        due.is("pot(0)", 1);
    }

    @Edge(of = "Promise 28", says = FEWEST)
    static void theMostSeconds(Due due) {
        due.rollAll(0, 99999);
        due.rollAll(1, 1);
        due.is("pot(0)", 99999);
    }

    @Edge(of = "Promise 28", says = "-5: n.")
    static void potBehindSoMany(Due due) {
        due.is("pot(-1)", -5);
        due.is("pot(1)", -5);
        due.steps("1, 1, 1");
        due.is("pot(1)", 545);
        due.is("pot(2)", -5);
    }
}
