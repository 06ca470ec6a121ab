import java.util.ArrayList;
import java.util.Collections;
import java.util.List;

/** Edges that MORE EVEN, COOKED, A MAP, DRAWN BY LOT, AN IMAGE and SHEETS name. */
final class EdgesOfTerms {
    private static final String LESS = "if its greatest THICK times the other's least (1 at least) "
        + "is less than the other's greatest times its least (1 at least)";
    private static final String SPREAD = "SPREAD: the greatest THICK less the least.";
    private static final String DOUBLED =
        "a doubling takes place p to 2 p, if p is below 2048, else to 2 (4095 less p) and 1";
    private static final String STRANDS =
        "behind a doubling place c has as many strands of it as places c by 2 (cut) and 15 less that had together";
    private static final String SEED = "by a SEED (0 .. 99999)";
    private static final String LOTS = "LOTS: the first is (SEED and 1) times 48271 modulo 2147483647, "
        + "each further one the last times 48271 modulo 2147483647.";
    private static final String ONE_FOR_EACH = "For each CELL each time it is DRAWN one";
    private static final String BY_LOT =
        "draw is that modulo 5, less 2, more (then 1 .. 99, else the bound)";
    private static final String KEPT = "AN IMAGE keeps THE DOUGH as it is rolled, WET, SALT, WARM, THE LAW.";
    private static final String SHEETS = "SHEETS 0 .. 3 are rows of numbers";
    private static final String MISSING = "or missing (as all are at first)";
    private static final String SORTS = "of sort 0 bytes, 1 shorts, 2 ints";
    private static final String FIRST_TOLD = "REFUSALS, of several the first one told";
    private static final String NO_ANSWER = "(a -1 that is an answer comes behind the refusal of a number)";
    private static final String REFUSED = "They change nothing, but where it is told.";
    private static final String ASKED = "What is asked changes nothing, but where it is told.";
    private static final String SO_MANY =
        "In what follows n is how many STEPS, from the first on (-5, if there are not so many).";

    /** What is asked with an n that is %d. */
    private static final String[] OF_N = {"rope(%d, 5, 0)", "state(%d, 2)", "window(%d, 5)", "pace(%d, 5, 1)",
        "rest(%d, 55, 50)", "dust(%d, 5)", "doublings(%d, 5, 20)", "judge(%d, 0, 5)", "film(%d, 0)", "serves(%d, 0, 0)",
        "which(%d, 0)", "fault(%d, 0)", "uneven(%d, 1)", "cooks(%d, 300, 1)", "pot(%d)", "drawn(%d, 5, 7, 0)"};

    private EdgesOfTerms() {
    }

    // ---- MORE EVEN, SPREAD

    /** Of one EASE for all; CELL 0 is told apart by its MUCH. */
    private static void evenly(Due due, int much, int more, int paces) {
        due.law("1", "0", "0");
        due.is("roll(0, 0, " + much + ")", 60000);
        due.is("window(0, " + more + ")", paces);
    }

    @Edge(of = "MORE EVEN", says = LESS)
    static void likeIsNotMoreEven(Due due) {
        // 600 and 300, then 400 and 200: 120000 each
        evenly(due, 30000, 5, 0);
    }

    @Edge(of = "MORE EVEN", says = LESS)
    static void aLittleMoreEven(Due due) {
        // 600 and 301, then 400 and 201: 120400 and 120600
        evenly(due, 30150, 5, 1022);
    }

    @Edge(of = "MORE EVEN", says = LESS)
    static void aLittleLessEven(Due due) {
        // 600 and 301, then 400 and 200
        evenly(due, 30100, 5, 0);
    }

    @Edge(of = "MORE EVEN", says = LESS)
    static void theOthersLeastIsNothing(Due due) {
        // 600 and 0, then 545 and 0: 545 and 600
        evenly(due, 99, 1, 1022);
        // 600 and 0, drawn by nothing: 600 and 600
        due.is("window(0, 0)", 0);
    }

    @Edge(of = "MORE EVEN", says = LESS)
    static void itsLeastIsNothing(Due due) {
        // 600 and 1, then 545 and 0
        evenly(due, 100, 1, 1022);
    }

    @Edge(of = "MORE EVEN", says = LESS)
    static void theOthersLeastIsTwo(Due due) {
        // 600 and 2, then 545 and 1: 1090 and 600
        evenly(due, 200, 1, 0);
    }

    @Edge(of = "MORE EVEN", says = LESS)
    static void nothingIsThick(Due due) {
        due.rollAll(0, 1);
        due.is("window(0, 9)", 0);
    }

    @Edge(of = "MORE EVEN", says = SPREAD)
    static void noSpread(Due due) {
        due.is("state(0, 2)", 0);
    }

    @Edge(of = "MORE EVEN", says = SPREAD)
    static void theMostSpread(Due due) {
        due.is("roll(3, 0, 1)", 60000);
        due.is("roll(9, 0, 99999)", 60000);
        due.is("roll(9, 1, 1)", 100);
        due.is("state(0, 2)", 99999);
    }

    // ---- COOKED

    /** All but CELL 0 are of THICK 600; how many are raw, done, mush. */
    private static void cooked(Due due, int seconds, int raw, int done, int mush) {
        due.is("cooks(0, " + seconds + ", 0)", raw);
        due.is("cooks(0, " + seconds + ", 1)", done);
        due.is("cooks(0, " + seconds + ", 2)", mush);
    }

    @Edge(of = "COOKED", says = "COOKED for so many seconds a CELL is raw, if these are below its THICK")
    static void rawBelowItsThick(Due due) {
        due.is("roll(0, 0, 60100)", 60000);
        cooked(due, 599, 12, 0, 0);
        cooked(due, 600, 1, 11, 0);
        cooked(due, 601, 0, 12, 0);
    }

    @Edge(of = "COOKED", says = "done, if they are below twice that, else mush")
    static void mushFromTwiceThatOn(Due due) {
        due.is("roll(0, 0, 60100)", 60000);
        cooked(due, 1199, 0, 12, 0);
        cooked(due, 1200, 0, 1, 11);
        cooked(due, 1201, 0, 1, 11);
        cooked(due, 1202, 0, 0, 12);
    }

    @Edge(of = "COOKED", says = "done, if they are below twice that, else mush")
    static void whatIsOfNoThickIsMush(Due due) {
        due.is("roll(0, 0, 99)", 60000);
        due.is("roll(1, 0, 100)", 60000);
        cooked(due, 0, 11, 0, 1);
        cooked(due, 1, 10, 1, 1);
        cooked(due, 2, 10, 0, 2);
    }

    // ---- A MAP, COLOURS

    @Edge(of = "A MAP", says = "A MAP of 4096 places")
    static void theFirstAndTheLastPlace(Due due) {
        due.is("place(0, 0)", 0);
        due.is("place(4095, 0)", 4095);
        due.is("place(-1, 0)", -2);
        due.is("place(4096, 0)", -2);
    }

    @Edge(of = "A MAP", says = DOUBLED)
    static void placesBelow2048(Due due) {
        due.is("place(0, 1)", 0);
        due.is("place(1, 1)", 2);
        due.is("place(2047, 1)", 4094);
    }

    @Edge(of = "A MAP", says = DOUBLED)
    static void placesFrom2048On(Due due) {
        due.is("place(2048, 1)", 4095);
        due.is("place(4094, 1)", 3);
        due.is("place(4095, 1)", 1);
    }

    @Edge(of = "A MAP", says = "COLOURS: 16 places of one strand, each of the one colour (1) or not (0)")
    static void theFirstAndTheLastBit(Due due) {
        due.is("colours(0, 0, 1)", 0);
        due.is("colours(1, 0, 1)", 1);
        due.is("colours(32768, 0, 1)", 1);
        due.is("colours(65535, 0, 0)", 1);
        due.is("colours(65536, 0, 0)", -2);
        due.is("colours(-1, 0, 0)", -2);
    }

    @Edge(of = "A MAP", says = STRANDS)
    static void theEndsTogether(Due due) {
        // of places 0 and 15 one has it, or both: places 0 and 1 then
        due.is("colours(1, 1, 2)", 2);
        due.is("colours(32768, 1, 2)", 2);
        due.is("colours(32769, 1, 2)", 0);
        due.is("colours(32769, 1, 1)", 2);
    }

    @Edge(of = "A MAP", says = STRANDS)
    static void theMiddleTogether(Due due) {
        // places 7 and 8 come to 14 and 15, these with 0 and 1 to 0 .. 3
        due.is("colours(384, 1, 1)", 2);
        due.is("colours(384, 1, 2)", 0);
        due.is("colours(384, 2, 1)", 2);
        due.is("colours(384, 2, 2)", 4);
        due.is("colours(128, 1, 2)", 2);
    }

    // ---- DRAWN BY LOT

    /** What is THICK behind n steps, by lot. */
    private static void byLot(Due due, int n, int seed, int... thick) {
        for (int c = 0; c < thick.length; c++) {
            due.is("drawn(" + n + ", " + c + ", " + seed + ", 0)", thick[c]);
        }
    }

    @Edge(of = "DRAWN BY LOT", says = SEED)
    static void theLeastAndTheMostSeed(Due due) {
        due.is("drawn(0, 0, 0, 0)", 600);
        due.is("drawn(0, 0, 99999, 0)", 600);
        due.is("drawn(0, 0, -1, 0)", -7);
        due.is("drawn(0, 0, 100000, 0)", -7);
    }

    @Edge(of = "DRAWN BY LOT", says = LOTS)
    static void lotsOfTheLeastSeed(Due due) {
        due.law("10", "0", "0");
        due.steps("1, 1, 1");
        // 48271, 182605794, ..: modulo 5 it is 1, 4, 1, 2, 1, 3, 1, 0, 1, 1, 1, 2
        byLot(due, 1, 0, 545, 530, 545, 540, 545, 535, 550, 555, 550, 550, 550, 545);
    }

    @Edge(of = "DRAWN BY LOT", says = LOTS)
    static void lotsOfTheMostSeed(Due due) {
        due.law("1", "0", "0");
        due.steps("1, 1, 1");
        // 100000 times 48271 less twice 2147483647 is 532132706, and so on
        byLot(due, 1, 99999, 566, 508, 566, 535, 566, 508, 566, 566, 566, 535, 566, 508);
    }

    @Edge(of = "DRAWN BY LOT", says = ONE_FOR_EACH)
    static void lotsGoOnFromOneDrawingToTheNext(Due due) {
        due.law("10", "0", "0");
        due.steps("1, 1, 1", "1, 1, 1");
        byLot(due, 2, 0, 495, 476, 491, 483, 487, 480, 495, 512, 504, 512, 512, 500);
    }

    @Edge(of = "DRAWN BY LOT", says = ONE_FOR_EACH)
    static void otherStepsTakeNoLot(Due due) {
        due.law("10", "0", "0");
        due.steps("0, 9, 1", "4, 9, 1", "1, 1, 1", "0, 1, 1", "4, 1, 1", "1, 1, 1");
        byLot(due, 3, 0, 545, 530, 545, 540, 545, 535, 550, 555, 550, 550, 550, 545);
        byLot(due, 6, 0, 495, 476, 491, 483, 487, 480, 495, 512, 504, 512, 512, 500);
    }

    @Edge(of = "DRAWN BY LOT", says = ONE_FOR_EACH)
    static void drawnByNothingTakesALot(Due due) {
        due.law("10", "0", "0");
        due.steps("1, 0, 1", "1, 1, 1");
        // the thirteenth lot and those behind it: 0, 2, 1, 2, 2, 2, 1, -2, 0, -2, -2, 0 more
        byLot(due, 2, 0, 545, 535, 540, 535, 535, 535, 540, 555, 550, 560, 560, 550);
    }

    @Edge(of = "DRAWN BY LOT", says = ONE_FOR_EACH)
    static void eachAskingBeginsWithTheFirst(Due due) {
        due.law("10", "0", "0");
        due.steps("1, 1, 1");
        byLot(due, 1, 0, 545, 530);
        due.is("drawn(1, 1, 0, 0)", 530);
        due.is("drawn(1, 1, 0, 0)", 530);
        due.is("rope(1, 1, 0)", 545);
        due.is("drawn(1, 0, 0, 1)", 25);
    }

    @Edge(of = "DRAWN BY LOT", says = BY_LOT)
    static void lotsAtTheLeastEase(Due due) {
        due.law("0 - 2", "0", "0");
        due.steps("1, 1, 1");
        // none is above 0: all are 1
        byLot(due, 1, 0, 545, 545, 545, 545, 545, 545, 545, 545, 545, 545, 545, 545);
    }

    @Edge(of = "DRAWN BY LOT", says = BY_LOT)
    static void lotsJustAboveTheLeastEase(Due due) {
        due.law("0", "0", "0");
        due.steps("1, 1, 1");
        // 4 modulo 5 alone is 2: 13 in all; 9 and 18, 3 are left over
        byLot(due, 1, 0, 545, 504, 545, 550, 550, 550, 550, 550, 550, 550, 550, 550);
    }

    @Edge(of = "DRAWN BY LOT", says = BY_LOT)
    static void lotsAtTheMostEase(Due due) {
        due.law("101", "0", "0");
        due.steps("1, 1, 1");
        byLot(due, 1, 0, 545, 545, 545, 545, 545, 545, 545, 545, 545, 545, 545, 545);
    }

    @Edge(of = "DRAWN BY LOT", says = BY_LOT)
    static void lotsJustBelowTheMostEase(Due due) {
        due.law("100", "0", "0");
        due.steps("1, 1, 1");
        // 98 for CELL 7 alone, else 99: 1187 in all; 9 and 10, 1 for CELL 0
        byLot(due, 1, 0, 540, 545, 545, 545, 545, 545, 545, 550, 545, 545, 545, 545);
    }

    // ---- AN IMAGE

    @Edge(of = "AN IMAGE", says = KEPT)
    static void allThatAnImageKeeps(Due due) {
        due.text("draw 1 ; tears 0 ; sticks 0 ;", 1);
        due.is("image()", 0);
        for (int c = 0; c < 12; c++) {
            due.is("roll(" + c + ", 0, 99999)", 60000);
            due.is("roll(" + c + ", 1, 999)", 100);
        }
        due.is("set(0, 9)", 5);
        due.is("set(1, 9)", 2);
        due.is("set(2, 9)", 5);
        due.is("force(1)", 0);
        due.is("back()", 0);
        due.all(0, 0, 600);
        due.all(0, 1, 100);
        due.is("count(0)", 5);
        due.is("count(1)", 2);
        due.is("count(2)", 5);
        due.is("count(5)", 0);
    }

    @Edge(of = "AN IMAGE", says = KEPT)
    static void whatAnImageDoesNotKeep(Due due) {
        due.is("image()", 0);
        due.text("draw 1 ; tears 0 ; sticks 0 ;", 1);
        due.tape("draw");
        due.steps("1, 9, 9");
        due.is("film(1, 2)", 12);
        due.is("back()", 1);
        due.is("count(3)", 1);
        due.is("count(4)", 2);
        due.is("count(6)", 4);
        due.is("judge(1, 2, 0)", -1);
    }

    // ---- SHEETS

    @Edge(of = "SHEETS", says = SHEETS)
    static void theFirstAndTheLastSheet(Due due) {
        due.is("sheet(0, 2, 1)", 1);
        due.is("sheet(3, 2, 1)", 1);
        due.is("cell(0, 0, 5)", 1);
        due.is("cell(3, 0, 5)", 1);
        due.is("sheet(-1, 2, 1)", -2);
        due.is("sheet(4, 2, 1)", -2);
        due.is("cell(-1, 0, 5)", -2);
        due.is("cell(4, 0, 5)", -2);
    }

    @Edge(of = "SHEETS", says = MISSING)
    static void allAreMissingAtFirst(Due due) {
        for (int s = 0; s < 4; s++) {
            due.is("cell(" + s + ", 0, 0)", -11);
            due.is("judge(0, " + s + ", 0)", -11);
        }
    }

    @Edge(of = "SHEETS", says = SORTS)
    static void theFirstAndTheLastSort(Due due) {
        for (int sort = 0; sort <= 2; sort++) {
            due.is("sheet(0, " + sort + ", 3)", 1);
            due.is("stepsBy(0, " + sort + ", 0, 1)", 0);
        }
        due.is("sheet(0, 3, 3)", -2);
        due.is("sheet(0, -2, 3)", -2);
    }

    @Edge(of = "SHEETS", says = "40 at most")
    static void fortyNumbers(Due due) {
        due.is("sheet(0, 2, 40)", 1);
        due.is("cell(0, 39, 5)", 1);
        due.is("cell(0, 40, 5)", -12);
        due.is("sheet(0, 2, 41)", -2);
        due.is("cell(0, 39, 5)", 1);
    }

    // ---- REFUSALS

    @Edge(of = "SHEETS", says = FIRST_TOLD)
    static void ofSeveralTheFirst(Due due) {
        due.is("roll(12, 2, 0)", -5);
        due.is("set(3, 10)", -1);
        due.is("stepTold(0, 4)", -5);
        due.is("rope(1, 12, 3)", -5);
        due.is("state(1, 8)", -5);
        due.is("window(1, 10)", -5);
        due.is("pace(1, 10, 2)", -5);
        due.is("rest(1, 0, 101)", -5);
        due.is("dust(1, 101)", -5);
        due.is("doublings(1, 0, 0)", -5);
        due.is("judge(1, 4, -1)", -5);
        due.is("judge(0, 4, -1)", -2);
        due.is("judge(0, 0, -1)", -11);
        due.is("film(1, 4)", -5);
        due.is("serves(1, 4, 3)", -5);
        due.is("serves(0, 4, 3)", -2);
        due.is("serves(0, 0, 3)", -11);
        due.is("which(1, 4)", -5);
        due.is("fault(1, 4)", -5);
        due.is("uneven(1, 2)", -5);
        due.is("cooks(1, -1, 3)", -5);
        due.is("drawn(1, 12, -1, 2)", -5);
        due.is("sheet(4, 3, -1)", -2);
        due.is("sheet(0, 3, -1)", -2);
        due.is("cell(4, -1, 0)", -2);
        due.is("cell(0, -1, 0)", -11);
        due.is("copy(0, -1, 4, -1, -1)", -2);
        due.is("copy(0, -1, 1, -1, -1)", -11);
        due.is("stepsBy(4, 3, -1, 13)", -2);
        due.is("stepsBy(0, 2, -1, 13)", -2);
        due.is("stepsBy(0, 2, -1, 1)", -11);
        due.is("taken(24, 7)", -2);
        due.is("taken(24, 0)", -12);
    }

    @Edge(of = "SHEETS", says = FIRST_TOLD)
    static void ofSeveralTheFirstWhereSheetsAre(Due due) {
        due.is("sheet(0, 2, 11)", 1);
        due.is("sheet(1, 1, 12)", 1);
        due.is("judge(0, 0, -1)", -2);
        due.is("judge(0, 1, -1)", -7);
        due.is("serves(0, 0, 3)", -2);
        due.is("serves(0, 1, 3)", -7);
        due.is("copy(0, -1, 1, 99, -1)", -13);
        due.is("stepsBy(0, 1, -1, 1)", -13);
        due.is("stepsBy(0, 2, -1, 1)", -12);
    }

    @Edge(of = "SHEETS", says = FIRST_TOLD)
    static void ofSeveralTheFirstWhereAllIsFull(Due due) {
        for (int s = 0; s < 12; s++) {
            due.steps("0, 0, 1");
        }
        due.is("step(6, 0, 1)", -2);
        due.is("step(0, 0, 1)", -4);
        for (int t = 1; t <= 5; t++) {
            due.text("draw 1;tears 0;sticks 0;", t);
        }
        due.text("?", -4);
        due.is("count(6)", 1);
        due.tape(" ".repeat(159));
        due.is("feed(0, 9)", -2);
        due.is("feed(0, 1)", -4);
    }

    @Edge(of = "SHEETS", says = NO_ANSWER)
    static void noneComesBehindARefusal(Due due) {
        due.law("1", "100", "100");
        due.is("film(0, 0)", 12);
        due.is("rest(0, 11, 1)", -1);
        due.is("rest(0, 10, 1)", -7);
        due.is("rest(0, 11, 101)", -7);
        due.is("dust(0, 1)", -1);
        due.is("dust(0, 101)", -7);
        due.is("judge(0, 0, 0)", -1);
        due.is("judge(0, 0, -1)", -7);
        due.is("fault(0, 0)", -1);
        due.is("fault(1, 0)", -5);
        due.is("parted(0, 0, 1)", -1);
        due.is("parted(0, 0, 4096)", -2);
    }

    @Edge(of = "SHEETS", says = "NONE there is no such thing")
    static void noSuchThing(Due due) {
        due.same("NONE", PulledToAHair.NONE, -1);
        due.is("set(3, 0)", PulledToAHair.NONE);
        due.is("set(-1, 0)", PulledToAHair.NONE);
    }

    @Edge(of = "SHEETS", says = "BAD a number is not as told")
    static void aNumberNotAsTold(Due due) {
        due.same("BAD", PulledToAHair.BAD, -2);
        due.is("set(0, 10)", PulledToAHair.BAD);
    }

    @Edge(of = "SHEETS", says = "STATE as told")
    static void stateAsTold(Due due) {
        due.same("STATE", PulledToAHair.STATE, -3);
        due.is("forget()", PulledToAHair.STATE);
        due.is("back()", PulledToAHair.STATE);
    }

    @Edge(of = "SHEETS", says = "FULL.")
    static void full(Due due) {
        due.same("FULL", PulledToAHair.FULL, -4);
        due.tape(" ".repeat(160));
        due.is("feed(32, 1)", PulledToAHair.FULL);
    }

    @Edge(of = "SHEETS", says = "-11 nothing there")
    static void nothingThere(Due due) {
        due.is("cell(0, 0, 0)", -11);
        due.is("taken(12, 0)", -11);
    }

    @Edge(of = "SHEETS", says = "-12 a place outside")
    static void aPlaceOutside(Due due) {
        due.is("sheet(0, 2, 1)", 1);
        due.is("cell(0, 1, 0)", -12);
        due.is("cell(0, -1, 0)", -12);
        due.is("taken(24, 0)", -12);
    }

    @Edge(of = "SHEETS", says = "-13 of another sort or KIND")
    static void ofAnotherSortOrKind(Due due) {
        due.is("sheet(0, 2, 1)", 1);
        due.is("sheet(1, 1, 1)", 1);
        due.is("copy(0, 0, 1, 0, 1)", -13);
        due.steps("1, 0, 1");
        due.is("taken(12, 2)", -13);
        due.is("taken(12, 1)", 0);
    }

    @Edge(of = "SHEETS", says = "-14 a size below 0")
    static void aSizeBelow0(Due due) {
        due.is("sheet(0, 2, -1)", -14);
        due.is("sheet(0, 2, 0)", 1);
    }

    /** An object where much has been done. */
    private static void muchDone(Due due) {
        due.text("draw 20 - stiff ; tears stiff < 30 ; sticks folds * 5 - dust ;", 1);
        due.is("force(1)", 0);
        due.is("roll(3, 0, 4321)", 60000);
        due.is("roll(8, 1, 321)", 100);
        due.is("set(0, 7)", 5);
        due.is("set(1, 8)", 2);
        due.is("set(2, 3)", 5);
        due.is("image()", 0);
        due.is("roll(3, 0, 54321)", 4321);
        due.steps("1, 7, 4", "3, 0, 1", "2, 8, 9");
        due.is("film(3, 0)", 12);
        due.is("sheet(1, 0, 3)", 1);
        due.is("film(0, 2)", 12);
        due.tape("draw");
    }

    /** All that can be seen of such an object without a change. */
    private static List<Long> seen(Due due) {
        List<Long> all = new ArrayList<>();
        for (int what = 0; what <= 6; what++) {
            all.add(due.ask("count(" + what + ")"));
        }
        for (int c = 0; c < 12; c++) {
            all.add(due.ask("taken(" + c + ", 6)"));
            all.add(due.ask("rope(0, " + c + ", 1)"));
            all.add(due.ask("rope(3, " + c + ", 0)"));
        }
        for (int s = 0; s <= 3; s++) {
            for (int what = 0; what <= 3; what++) {
                all.add(due.ask("stepTold(" + s + ", " + what + ")"));
            }
            all.add(due.ask("judge(3, " + s + ", 0)"));
            all.add(due.ask("judge(0, " + s + ", 0)"));
            all.add(due.ask("copy(" + s + ", 0, " + s + ", 0, 12)"));
            all.add(due.ask("copy(" + s + ", 0, " + s + ", 0, 3)"));
        }
        all.add(due.ask("whole(3, 2)"));
        return all;
    }

    @Edge(of = "SHEETS", says = REFUSED)
    static void aRefusalChangesNothing(Due due) {
        muchDone(due);
        List<Long> before = seen(due);
        String[] refused = {"roll(-1, 0, 1)", "roll(12, 0, 1)", "roll(3, 2, 1)", "roll(3, 0, 0)", "roll(3, 0, 100000)",
            "roll(3, 1, 0)", "roll(3, 1, 1000)", "set(3, 1)", "set(-1, 1)", "set(0, 10)", "set(1, -1)", "feed(7, 0)",
            "feed(7, 9)", "force(2)", "force(-1)", "step(6, 1, 1)", "step(-1, 1, 1)", "step(1, 10, 1)", "step(1, 1, 0)",
            "film(4, 0)", "film(-1, 2)", "film(3, 4)", "film(3, -1)", "sheet(4, 0, 1)", "sheet(0, 3, 1)",
            "sheet(0, -2, 1)", "sheet(0, 2, 41)", "sheet(0, 2, -1)", "cell(4, 0, 9)", "cell(3, 0, 9)", "cell(0, 12, 9)",
            "cell(2, -1, 9)", "cell(1, 3, 9)", "copy(0, 0, 4, 0, 12)", "copy(0, 0, 3, 0, 12)", "copy(0, 0, 1, 0, 3)",
            "copy(0, 0, 2, 1, 12)", "copy(0, 1, 2, 0, 12)", "copy(0, 0, 2, 0, 13)", "copy(0, 0, 2, 0, -1)",
            "stepsBy(1, 3, 0, 1)", "stepsBy(4, 0, 0, 1)", "stepsBy(1, 0, 0, 13)", "stepsBy(3, 0, 0, 1)",
            "stepsBy(1, 2, 0, 1)", "stepsBy(1, 0, 1, 1)", "stepsBy(1, 0, -1, 1)"};
        for (String call : refused) {
            due.same(call + " is refused", due.ask(call) < 0 ? 1 : 0, 1);
        }
        due.same("it is as it was", seen(due).equals(before) ? 1 : 0, 1);
        // and so is what the image keeps
        due.is("back()", 3);
        due.is("taken(3, 6)", 4321);
        due.is("count(2)", 3);
    }

    @Edge(of = "SHEETS", says = REFUSED)
    static void fullChangesNothing(Due due) {
        for (int s = 0; s < 12; s++) {
            due.steps("1, 2, 3");
        }
        due.is("step(5, 4, 6)", -4);
        due.is("count(3)", 12);
        due.is("stepTold(11, 0)", 1);
        due.tape("draw 1;tears 0;sticks 7" + " ".repeat(130));
        due.is("count(6)", 153);
        due.is("feed(" + 0x3b3b3b3b_3b3b3b3bL + ", 8)", -4);
        due.is("count(6)", 153);
        due.is("feed(59, 1)", 154);
        due.is("text()", 1);
    }

    @Edge(of = "SHEETS", says = REFUSED)
    static void stateChangesNothing(Due due) {
        due.is("back()", -3);
        due.is("forget()", -3);
        due.is("count(3)", 0);
        due.is("step(1, 2, 3)", 0);
        due.is("roll(0, 0, 5)", 60000);
        due.is("back()", -3);
        due.is("taken(0, 6)", 5);
        due.is("image()", 1);
        due.is("back()", 1);
        due.is("taken(0, 6)", 5);
    }

    private static List<String> questions() {
        List<String> all = new ArrayList<>();
        for (String of : OF_N) {
            if (!of.startsWith("film")) {
                all.add(String.format(of, 3));
                all.add(String.format(of, 1));
            }
        }
        Collections.addAll(all, "count(0)", "stepTold(1, 3)", "rope(3, 0, 2)", "state(3, 4)", "state(2, 7)",
            "whole(3, 0)", "whole(3, 1)", "whole(3, 2)", "stop(50)", "stop(99)", "worst()", "pace(3, 9, 0)",
            "serves(3, 0, 1)", "serves(3, 0, 2)", "uneven(3, 0)", "place(77, 5)", "apart(7, 8, 9)", "parted(7, 8, 99)",
            "round(5)", "colours(77, 3, 1)", "colours(77, 3, 2)", "thin(600, 5, 1)", "odds(1, 3, 4, 0)",
            "record(1, 30, 80)", "drawn(3, 0, 9, 1)", "drawn(3, 4, 5, 0)", "taken(3, 6)", "taken(13, 0)");
        return all;
    }

    @Edge(of = "SHEETS", says = ASKED)
    static void askingChangesNothing(Due due) {
        muchDone(due);
        List<Long> before = seen(due);
        for (String question : questions()) {
            due.same(question + " is answered", due.ask(question) >= -1 ? 1 : 0, 1);
        }
        due.same("it is as it was", seen(due).equals(before) ? 1 : 0, 1);
        due.is("back()", 3);
        due.is("taken(3, 6)", 4321);
    }

    @Edge(of = "SHEETS", says = ASKED)
    static void whateverIsAskedAheadOfIt(Due due) {
        muchDone(due);
        List<String> questions = questions();
        List<Long> answers = new ArrayList<>();
        for (String question : questions) {
            answers.add(due.ask(question));
        }
        for (int i = questions.size() - 1; i >= 0; i--) {
            due.is(questions.get(i), answers.get(i));
        }
        for (int i = 0; i < questions.size(); i += 7) {
            due.is(questions.get(i), answers.get(i));
        }
    }

    @Edge(of = "SHEETS", says = SO_MANY)
    static void noSoManySteps(Due due) {
        due.is("sheet(0, 2, 12)", 1);
        due.steps("1, 1, 1", "3, 1, 1");
        for (String of : OF_N) {
            due.is(String.format(of, -1), -5);
            due.is(String.format(of, 3), -5);
            due.is(String.format(of, 12), -5);
            due.is(String.format(of, Integer.MIN_VALUE), -5);
            due.is(String.format(of, Integer.MAX_VALUE), -5);
            due.same(String.format(of, 2), due.ask(String.format(of, 2)) >= -1 ? 1 : 0, 1);
            due.same(String.format(of, 0), due.ask(String.format(of, 0)) >= -1 ? 1 : 0, 1);
        }
    }

    @Edge(of = "SHEETS", says = SO_MANY)
    static void twelveStepsAndNotThirteen(Due due) {
        due.is("sheet(0, 2, 12)", 1);
        for (int s = 0; s < 12; s++) {
            due.steps("4, 1, 1");
        }
        for (String of : OF_N) {
            due.is(String.format(of, 13), -5);
            due.same(String.format(of, 12), due.ask(String.format(of, 12)) >= -1 ? 1 : 0, 1);
        }
    }

    @Edge(of = "SHEETS", says = SO_MANY)
    static void aStepThatIsForgottenIsNone(Due due) {
        due.is("sheet(0, 2, 12)", 1);
        due.steps("1, 1, 1");
        due.is("forget()", 0);
        for (String of : OF_N) {
            due.is(String.format(of, 1), -5);
        }
    }

    @Edge(of = "SHEETS", says = SO_MANY)
    static void theStepsBehindAreNotMade(Due due) {
        due.steps("1, 9, 9", "3, 0, 1");
        due.all(0, 1, 100);
        due.all(1, 1, 190);
        due.all(2, 1, 95);
        due.is("state(1, 3)", 0);
        due.is("state(2, 7)", 4);
        due.is("state(1, 7)", 1);
    }
}
