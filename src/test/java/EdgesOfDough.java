/** Edges that the first lines, THE DOUGH and DRAWN name. */
final class EdgesOfDough {
    private static final String IN_TURN = "of what is left over 1 more for CELL 0, 1, .. in turn";
    private static final String EASE = "EASE of each CELL: draw of THE LAW (1 .. 99, else the bound)";
    private static final String LONGER = "LENGTH is that longer (1000000 at most)";
    private static final String STIFFER = "STIFF is share times PACE times 10 by LENGTH more (99 at most)";
    private static final String TORN =
        "Then, CELL by CELL: WHOLE times (100 less tears of THE LAW, 0 .. 100, else the bound) by 100.";

    private EdgesOfDough() {
    }

    // ---- What it is

    @Edge(of = "What it is", says = "An object is used for at most 512 calls after it has been made")
    static void theLastCall(Due due) {
        due.is("step(3, 0, 1)", 0);
        for (int i = 2; i <= 511; i++) {
            due.is("count(3)", 1);
        }
        due.is("rope(1, 11, 1)", 50);
    }

    @Edge(of = "What it is", says = "what later calls answer is free.")
    static void laterCallsEnd(Due due) {
        PulledToAHair x = new PulledToAHair();
        for (int i = 0; i < 600; i++) {
            Due.answer(x, "step(" + i % 6 + ", 9, 9)");
            Due.answer(x, "feed(-1, 8)");
            Due.answer(x, "rope(12, 11, 0)");
        }
        due.same("they end", x.count(3) > -5 ? 1 : 0, 1);
    }

    // ---- THE DOUGH

    @Edge(of = "THE DOUGH", says = "CELLS 0 .. 11")
    static void theFirstAndTheLastCell(Due due) {
        due.is("roll(0, 0, 1200)", 60000);
        due.is("roll(11, 0, 2400)", 60000);
        due.row(0, 0, 12, 600, 600, 600, 600, 600, 600, 600, 600, 600, 600, 24);
    }

    @Edge(of = "THE DOUGH", says = "CELLS 0 .. 11")
    static void noCellAheadOfTheFirst(Due due) {
        due.is("roll(-1, 0, 5)", -5);
        due.is("rope(0, -1, 0)", -7);
        due.is("drawn(0, -1, 0, 0)", -7);
        due.is("taken(-1, 6)", -12);
    }

    @Edge(of = "THE DOUGH", says = "CELLS 0 .. 11")
    static void noCellBehindTheLast(Due due) {
        due.is("roll(12, 0, 5)", -5);
        due.is("rope(0, 12, 0)", -7);
        due.is("drawn(0, 12, 0, 0)", -7);
        due.is("taken(12, 6)", -11);
    }

    @Edge(of = "THE DOUGH", says = "each of MUCH (1 .. 99999; 60000 at first)")
    static void muchAtFirst(Due due) {
        for (int c = 0; c < 12; c++) {
            due.is("taken(" + c + ", 6)", 60000);
        }
    }

    @Edge(of = "THE DOUGH", says = "each of MUCH (1 .. 99999; 60000 at first)")
    static void theLeastMuch(Due due) {
        due.is("roll(3, 0, 1)", 60000);
        due.is("taken(3, 6)", 1);
        due.is("roll(3, 0, 0)", -7);
        due.is("roll(3, 0, -1)", -7);
        due.is("taken(3, 6)", 1);
    }

    @Edge(of = "THE DOUGH", says = "each of MUCH (1 .. 99999; 60000 at first)")
    static void theMostMuch(Due due) {
        due.is("roll(3, 0, 99999)", 60000);
        due.is("taken(3, 6)", 99999);
        due.is("roll(3, 0, 100000)", -7);
        due.is("roll(3, 0, 2147483647)", -7);
        due.is("taken(3, 6)", 99999);
    }

    @Edge(of = "THE DOUGH", says = "LENGTH (1 .. 999; 100 at first)")
    static void lengthAtFirst(Due due) {
        due.all(0, 1, 100);
    }

    @Edge(of = "THE DOUGH", says = "LENGTH (1 .. 999; 100 at first)")
    static void theLeastLength(Due due) {
        due.is("roll(3, 1, 1)", 100);
        due.is("rope(0, 3, 1)", 1);
        due.is("roll(3, 1, 0)", -7);
        due.is("roll(3, 1, -1)", -7);
        due.is("rope(0, 3, 1)", 1);
    }

    @Edge(of = "THE DOUGH", says = "LENGTH (1 .. 999; 100 at first)")
    static void theMostLength(Due due) {
        due.is("roll(3, 1, 999)", 100);
        due.is("rope(0, 3, 1)", 999);
        due.is("roll(3, 1, 1000)", -7);
        due.is("roll(3, 1, 2147483647)", -7);
        due.is("rope(0, 3, 1)", 999);
    }

    private static void taste(Due due, int what, int first) {
        due.is("count(" + what + ")", first);
        due.is("set(" + what + ", 0)", first);
        due.is("set(" + what + ", -1)", -2);
        due.is("count(" + what + ")", 0);
        due.is("set(" + what + ", 9)", 0);
        due.is("set(" + what + ", 10)", -2);
        due.is("count(" + what + ")", 9);
    }

    @Edge(of = "THE DOUGH", says = "WET (0 .. 9; 5 at first)")
    static void wet(Due due) {
        taste(due, 0, 5);
    }

    @Edge(of = "THE DOUGH", says = "SALT (0 .. 9; 2)")
    static void salt(Due due) {
        taste(due, 1, 2);
    }

    @Edge(of = "THE DOUGH", says = "WARM (0 .. 9; 5)")
    static void warm(Due due) {
        taste(due, 2, 5);
    }

    @Edge(of = "THE DOUGH", says = "STEPS are numbered from 0 on, 12 at most")
    static void theFirstStep(Due due) {
        due.is("stepTold(0, 0)", -5);
        due.is("step(2, 3, 4)", 0);
        due.is("stepTold(0, 0)", 2);
        due.is("stepTold(1, 0)", -5);
    }

    @Edge(of = "THE DOUGH", says = "STEPS are numbered from 0 on, 12 at most")
    static void theTwelfthStep(Due due) {
        for (int s = 0; s < 12; s++) {
            due.is("step(2, 3, 4)", s);
        }
        due.is("step(2, 3, 4)", -4);
        due.is("count(3)", 12);
        due.is("stepTold(11, 0)", 2);
        due.is("stepTold(12, 0)", -5);
    }

    @Edge(of = "THE DOUGH", says = "of a KIND, MORE (0 .. 9), PACE (1 .. 9)")
    static void theLeastAndTheMostOfAStep(Due due) {
        for (int kind = 0; kind <= 5; kind++) {
            due.is("step(" + kind + ", 0, 1)", 2 * kind);
            due.is("step(" + kind + ", 9, 9)", 2 * kind + 1);
        }
        due.is("stepTold(0, 1)", 0);
        due.is("stepTold(0, 2)", 1);
        due.is("stepTold(11, 0)", 5);
        due.is("stepTold(11, 1)", 9);
        due.is("stepTold(11, 2)", 9);
    }

    @Edge(of = "THE DOUGH", says = "of a KIND, MORE (0 .. 9), PACE (1 .. 9)")
    static void noSuchMoreOrPace(Due due) {
        for (int kind = 0; kind <= 5; kind++) {
            due.is("step(" + kind + ", -1, 5)", -2);
            due.is("step(" + kind + ", 10, 5)", -2);
            due.is("step(" + kind + ", 5, 0)", -2);
            due.is("step(" + kind + ", 5, 10)", -2);
        }
        due.is("count(3)", 0);
    }

    @Edge(of = "THE DOUGH", says = "A ROPE begins as THE DOUGH is rolled")
    static void aRopeOfNoSteps(Due due) {
        due.is("roll(4, 0, 99999)", 60000);
        due.is("roll(4, 1, 9)", 100);
        due.steps("5, 9, 9");
        due.is("rope(0, 4, 0)", 11111);
        due.is("rope(0, 4, 1)", 9);
        due.is("rope(0, 5, 0)", 600);
    }

    @Edge(of = "THE DOUGH", says = "A ROPE begins as THE DOUGH is rolled")
    static void rolledBehindItsSteps(Due due) {
        due.steps("3, 0, 1");
        due.all(1, 1, 50);
        due.is("roll(2, 1, 300)", 100);
        due.row(1, 1, 50, 50, 50, 50, 100, 100, 50, 50, 50, 50, 50, 50);
    }

    @Edge(of = "THE DOUGH", says = "STIFF 0 in each CELL")
    static void nothingIsStiffAtFirst(Due due) {
        due.steps("1, 9, 9");
        due.all(0, 2, 0);
    }

    @Edge(of = "THE DOUGH", says = "FOLDS 0, DUST 0, CUT 0")
    static void nothingIsFoldedDustedCutAtFirst(Due due) {
        due.steps("5, 9, 9", "4, 9, 9");
        due.is("state(0, 3)", 0);
        due.is("state(0, 5)", 0);
        due.is("state(0, 6)", 0);
        due.is("state(2, 3)", 1);
        due.is("state(2, 5)", 9);
        due.is("state(2, 6)", 54000);
    }

    @Edge(of = "THE DOUGH", says = "WHOLE and FREE 1000000000 PARTS each")
    static void allIsWholeAndFreeAtFirst(Due due) {
        due.law("1", "100", "100");
        due.steps("1, 0, 1", "3, 0, 1");
        due.is("whole(0, 0)", 1000000000);
        due.is("whole(0, 1)", 1000000000);
        due.is("whole(2, 0)", 0);
        due.is("whole(2, 1)", 0);
    }

    @Edge(of = "THE DOUGH", says = "STEPS make of it one behind the other")
    static void theOrderOfSteps(Due due) {
        due.steps("1, 9, 9", "0, 9, 1");
        due.all(2, 2, 0);
        due.again();
        due.steps("0, 9, 1", "1, 9, 9");
        due.all(2, 2, 42);
    }

    @Edge(of = "THE DOUGH", says = "(all quotients are cut)")
    static void quotientsAreCut(Due due) {
        // 59999 by 100, 59999 by 999; 99 by 4, three times 19 by 4
        due.is("roll(0, 0, 59999)", 60000);
        due.is("rope(0, 0, 0)", 599);
        due.is("roll(0, 1, 999)", 100);
        due.is("rope(0, 0, 0)", 60);
        due.rollAll(1, 99);
        due.steps("3, 0, 1");
        due.all(1, 1, 49);
    }

    @Edge(of = "THE DOUGH", says = "THICK of a CELL: MUCH by LENGTH.")
    static void theLeastAndTheMostThick(Due due) {
        due.is("roll(0, 0, 99)", 60000);
        due.is("rope(0, 0, 0)", 0);
        due.is("roll(0, 0, 100)", 99);
        due.is("rope(0, 0, 0)", 1);
        due.is("roll(0, 1, 1)", 100);
        due.is("roll(0, 0, 99999)", 100);
        due.is("rope(0, 0, 0)", 99999);
        due.is("roll(0, 1, 999)", 1);
        due.is("roll(0, 0, 1)", 99999);
        due.is("rope(0, 0, 0)", 0);
    }

    // ---- DRAWN

    /** CELL 0 is told apart by its THICK and has this EASE, the others have 1; a tenth of all LENGTH, 120, is drawn. */
    private static void easeOfOne(Due due, String ease, int length, int next, int last) {
        due.law("(thick = 300) * (" + ease + ") + (thick = 600)", "0", "0");
        due.is("roll(0, 0, 30000)", 60000);
        due.steps("1, 1, 5");
        due.row(1, 1, length, next, next, next, next, next, next, next, next, next, next, last);
    }

    @Edge(of = "DRAWN", says = EASE)
    static void anEaseOf1(Due due) {
        easeOfOne(due, "1", 110, 110, 110);
    }

    @Edge(of = "DRAWN", says = EASE)
    static void anEaseOf0(Due due) {
        easeOfOne(due, "0", 110, 110, 110);
    }

    @Edge(of = "DRAWN", says = EASE)
    static void anEaseBelow0(Due due) {
        easeOfOne(due, "0 - 9999", 110, 110, 110);
    }

    @Edge(of = "DRAWN", says = EASE)
    static void anEaseOf99(Due due) {
        // 120 times 99 by 110 is 108, 120 by 110 is 1: 1 is left over
        easeOfOne(due, "99", 209, 101, 101);
    }

    @Edge(of = "DRAWN", says = EASE)
    static void anEaseOf98(Due due) {
        due.law("(thick = 300) * 98 + (thick = 600)", "0", "0");
        due.is("roll(0, 0, 30000)", 60000);
        due.steps("1, 1, 5");
        // 120 times 98 by 109 is 107, 120 by 109 is 1: 2 are left over
        due.row(1, 1, 208, 102, 101, 101);
    }

    @Edge(of = "DRAWN", says = EASE)
    static void anEaseOf100(Due due) {
        easeOfOne(due, "100", 209, 101, 101);
    }

    @Edge(of = "DRAWN", says = EASE)
    static void aGreatEase(Due due) {
        easeOfOne(due, "2048 * 2048 * 511", 209, 101, 101);
    }

    @Edge(of = "DRAWN", says = EASE)
    static void anEaseThatWraps(Due due) {
        easeOfOne(due, "2048 * 2048 * 512", 110, 110, 110);
    }

    @Edge(of = "DRAWN", says = "each CELL's share: x times EASE by all EASE")
    static void aShareOfNothing(Due due) {
        due.law("50", "0", "0");
        due.steps("1, 0, 9");
        due.all(1, 1, 100);
        due.all(1, 2, 0);
    }

    @Edge(of = "DRAWN", says = "each CELL's share: x times EASE by all EASE")
    static void aShareThatIsCutToNothing(Due due) {
        // EASE 1 for CELL 0, 99 for the others, 1090 in all: of 9 it is 0 each
        due.law("(thick = 300) * 1 + (thick = 600) * 99", "0", "0");
        due.rollAll(1, 9);
        due.rollAll(0, 5400);
        due.is("roll(0, 0, 2700)", 5400);
        due.steps("1, 1, 1");
        // 108 by 10 is 10: 0 for CELL 0, 990 by 1090 for each other one; all 10 are left over
        due.row(1, 1, 10, 10, 10, 10, 10, 10, 10, 10, 10, 10, 9, 9);
    }

    @Edge(of = "DRAWN", says = "each CELL's share: x times EASE by all EASE")
    static void sharesOfMost(Due due) {
        pulledEleven(due, 999, 999, 9, 9);
        due.law("99", "0", "0");
        due.steps("1, 9, 1");
        // 10800000 times 99 by 1188 is 900000, times 10 by 1000000 is 9; it was 45
        due.all(12, 2, 54);
    }

    @Edge(of = "DRAWN", says = IN_TURN)
    static void nothingIsLeftOver(Due due) {
        due.steps("1, 1, 1");
        due.all(1, 1, 110);
    }

    @Edge(of = "DRAWN", says = IN_TURN)
    static void oneIsLeftOver(Due due) {
        due.rollAll(1, 1);
        due.steps("1, 1, 1");
        due.row(1, 1, 2, 1, 1, 1, 1, 1, 1, 1, 1, 1, 1, 1);
    }

    @Edge(of = "DRAWN", says = IN_TURN)
    static void elevenAreLeftOver(Due due) {
        due.rollAll(1, 1);
        due.is("roll(11, 1, 2)", 1);
        // 13 times 9 by 10 is 11
        due.steps("1, 9, 1");
        due.row(1, 1, 2, 2, 2, 2, 2, 2, 2, 2, 2, 2, 2, 2);
    }

    @Edge(of = "DRAWN", says = IN_TURN)
    static void twelveAreNotLeftOver(Due due) {
        due.rollAll(1, 1);
        due.is("roll(11, 1, 3)", 1);
        // 14 times 9 by 10 is 12
        due.steps("1, 9, 1");
        due.row(1, 1, 2, 2, 2, 2, 2, 2, 2, 2, 2, 2, 2, 4);
    }

    @Edge(of = "DRAWN", says = IN_TURN)
    static void whatIsLeftOverIsPartOfTheShare(Due due) {
        due.rollAll(1, 1);
        due.steps("1, 1, 9");
        // 1 times 9 times 10 by 2
        due.row(1, 2, 45, 0, 0, 0, 0, 0, 0, 0, 0, 0, 0, 0);
    }

    /** CELL 0 of LENGTH first, CELL 11 of last, the others of 999; eleven are pulled, by 9 but for the last two. */
    private static void pulledEleven(Due due, int first, int last, int tenth, int eleventh) {
        due.law("1", "0", "0");
        due.rollAll(1, 999);
        due.is("roll(0, 1, " + first + ")", 999);
        due.is("roll(11, 1, " + last + ")", 999);
        for (int s = 0; s < 9; s++) {
            due.steps("1, 9, 1");
        }
        due.steps("1, " + tenth + ", 1", "1, " + eleventh + ", 1");
    }

    @Edge(of = "DRAWN", says = LONGER)
    static void aLengthOf999999(Due due) {
        pulledEleven(due, 781, 709, 8, 8);
        due.is("rope(11, 0, 1)", 999999);
    }

    @Edge(of = "DRAWN", says = LONGER)
    static void aLengthOf1000000(Due due) {
        pulledEleven(due, 737, 754, 8, 8);
        due.is("rope(11, 0, 1)", 1000000);
    }

    @Edge(of = "DRAWN", says = LONGER)
    static void aLengthThatWouldBe1000001(Due due) {
        pulledEleven(due, 732, 154, 9, 8);
        due.is("rope(11, 0, 1)", 1000000);
    }

    @Edge(of = "DRAWN", says = LONGER)
    static void aLengthThatIsTheMostAlready(Due due) {
        pulledEleven(due, 999, 999, 9, 9);
        due.all(11, 1, 1000000);
        due.steps("1, 9, 1");
        due.all(12, 1, 1000000);
    }

    @Edge(of = "DRAWN", says = "then (each by its new LENGTH)")
    static void stiffByTheNewLength(Due due) {
        due.steps("1, 9, 1");
        // 90 times 10 by 190, not by 100
        due.all(1, 2, 4);
    }

    @Edge(of = "DRAWN", says = "then (each by its new LENGTH)")
    static void stiffByALengthThatIsTheMost(Due due) {
        pulledEleven(due, 999, 999, 9, 9);
        // 4 each time; the eleventh time some 551000 times 10 by 1000000
        due.all(10, 2, 40);
        due.all(11, 2, 45);
        due.steps("1, 9, 1");
        due.all(12, 2, 54);
    }

    @Edge(of = "DRAWN", says = STIFFER)
    static void noStiffer(Due due) {
        due.steps("1, 1, 1");
        // 10 times 10 by 110
        due.all(1, 2, 0);
    }

    @Edge(of = "DRAWN", says = STIFFER)
    static void stiffBy98And99(Due due) {
        // 42, 84; then of 866 it is 72 each, 73 for CELLS 0, 1: 6570 by 434 is 15, 6480 by 433 is 14
        due.steps("1, 9, 9", "1, 9, 9", "1, 2, 9");
        due.row(3, 2, 99, 99, 98, 98, 98, 98, 98, 98, 98, 98, 98, 98);
    }

    @Edge(of = "DRAWN", says = STIFFER)
    static void stiffThatWouldBe100(Due due) {
        // 84; then of 1299 it is 108 each, 7560 by 469 is 16
        due.steps("1, 9, 9", "1, 9, 9", "1, 3, 7");
        due.all(3, 2, 99);
        due.steps("1, 9, 9");
        due.all(4, 2, 99);
        due.steps("0, 1, 1");
        due.all(5, 2, 93);
    }

    @Edge(of = "DRAWN", says = TORN)
    static void tearsOf0(Due due) {
        due.law("1", "0", "0");
        due.steps("1, 9, 9");
        due.is("whole(1, 0)", 1000000000);
    }

    @Edge(of = "DRAWN", says = TORN)
    static void tearsBelow0(Due due) {
        due.law("1", "0 - 1", "0");
        due.steps("1, 9, 9");
        due.is("whole(1, 0)", 1000000000);
    }

    @Edge(of = "DRAWN", says = TORN)
    static void tearsBelow0ByWrapping(Due due) {
        due.law("1", "2048 * 2048 * 512", "0");
        due.steps("1, 9, 9");
        due.is("whole(1, 0)", 1000000000);
    }

    /** One CELL alone, of THICK 300, tears by this. */
    private static void tearsOfOne(Due due, String tears, long whole) {
        due.law("1", "(thick = 300) * (" + tears + ")", "0");
        due.is("roll(7, 0, 30000)", 60000);
        due.steps("1, 0, 9");
        due.is("whole(1, 0)", whole);
    }

    @Edge(of = "DRAWN", says = TORN)
    static void tearsOf1(Due due) {
        tearsOfOne(due, "1", 990000000);
    }

    @Edge(of = "DRAWN", says = TORN)
    static void tearsOf99(Due due) {
        tearsOfOne(due, "99", 10000000);
    }

    @Edge(of = "DRAWN", says = TORN)
    static void tearsOf100(Due due) {
        tearsOfOne(due, "100", 0);
    }

    @Edge(of = "DRAWN", says = TORN)
    static void tearsOf101(Due due) {
        tearsOfOne(due, "101", 0);
    }

    @Edge(of = "DRAWN", says = TORN)
    static void tearsOfTwo(Due due) {
        due.law("1", "(thick = 300) * 101", "0");
        due.is("roll(7, 0, 30000)", 60000);
        due.is("roll(9, 0, 30000)", 60000);
        due.steps("1, 0, 9");
        due.is("whole(1, 0)", 0);
    }

    @Edge(of = "DRAWN", says = TORN)
    static void cutCellByCell(Due due) {
        // 93 of 100 twelve times at once would be 418596297
        due.law("1", "7", "0");
        due.steps("1, 0, 9");
        due.is("whole(1, 0)", 418596295);
    }

    @Edge(of = "DRAWN", says = TORN)
    static void nothingWholeStaysSo(Due due) {
        due.law("1", "100", "0");
        due.steps("1, 0, 9", "0, 9, 9", "1, 0, 9");
        due.is("whole(1, 0)", 0);
        due.is("whole(2, 0)", 0);
        due.is("whole(3, 0)", 0);
    }
}
