/** Edges that promises 1 to 10 name. */
final class EdgesOfSteps {
    private static final String TEXT = "draw 1 ; tears 0 ; sticks 0 ;";
    private static final String ROLLED = "What 0 MUCH, 1 LENGTH of a CELL becomes v, as it is rolled: what was.";
    private static final String SET = "What 0 WET, 1 SALT, 2 WARM becomes v: what was.";
    private static final String FED = "The n lowest bytes of w, the highest first";
    private static final String READ = "THE TAPE, which is empty then (by a FAULT, too), is a TEXT: its number";
    private static final String FULL_TEXTS = "FULL (ahead of the FAULT; then THE TAPE stays).";
    private static final String FORGOTTEN = "The latest STEP is none any more: how many there are.";
    private static final String TOLD = "Of a STEP what 0 KIND, 1 MORE, 2 PACE, 3 how much it TAKES.";

    private EdgesOfSteps() {
    }

    // ---- promise 1

    @Edge(of = "Promise 1", says = "No STEPS.")
    static void noSteps(Due due) {
        due.is("count(3)", 0);
        due.is("rope(1, 0, 0)", -5);
        due.is("stepTold(0, 0)", -5);
        due.is("forget()", -3);
        due.is("taken(12, 0)", -11);
    }

    @Edge(of = "Promise 1", says = "No STEPS.")
    static void objectsAreApart(Due due) {
        due.steps("1, 9, 9");
        due.is("set(0, 9)", 5);
        due.again();
        due.is("count(3)", 0);
        due.is("count(0)", 5);
    }

    // ---- promise 2

    @Edge(of = "Promise 2", says = ROLLED)
    static void whatWasRolled(Due due) {
        due.is("roll(0, 0, 1)", 60000);
        due.is("roll(0, 0, 99999)", 1);
        due.is("roll(0, 0, 99999)", 99999);
        due.is("roll(11, 1, 999)", 100);
        due.is("roll(11, 1, 1)", 999);
        due.is("roll(11, 1, 100)", 1);
        due.is("roll(11, 0, 7)", 60000);
    }

    @Edge(of = "Promise 2", says = ROLLED)
    static void rolledNotAsItIsBehindSteps(Due due) {
        due.steps("1, 9, 9", "5, 9, 1");
        due.is("roll(0, 1, 50)", 100);
        due.is("roll(0, 0, 50)", 60000);
        due.is("roll(0, 1, 50)", 50);
    }

    @Edge(of = "Promise 2", says = "-5: no such CELL")
    static void noSuchCellToRoll(Due due) {
        due.is("roll(-1, 0, 5)", -5);
        due.is("roll(12, 0, 5)", -5);
        due.is("roll(-2147483648, 1, 5)", -5);
        due.is("roll(2147483647, 1, 5)", -5);
    }

    @Edge(of = "Promise 2", says = "-7: what, v.")
    static void whatToRoll(Due due) {
        due.is("roll(0, -1, 5)", -7);
        due.is("roll(0, 2, 5)", -7);
        due.is("roll(0, 2147483647, 5)", -7);
    }

    @Edge(of = "Promise 2", says = "-7: what, v.")
    static void howMuchToRoll(Due due) {
        due.is("roll(0, 0, 0)", -7);
        due.is("roll(0, 0, 100000)", -7);
        due.is("roll(0, 1, 0)", -7);
        due.is("roll(0, 1, 1000)", -7);
        due.is("roll(0, 0, -2147483648)", -7);
        // of MUCH it is fine, of LENGTH it isn't
        due.is("roll(0, 0, 1000)", 60000);
        due.is("rope(0, 0, 1)", 100);
    }

    // ---- promise 3

    @Edge(of = "Promise 3", says = SET)
    static void whatWasSet(Due due) {
        due.is("set(0, 0)", 5);
        due.is("set(0, 9)", 0);
        due.is("set(0, 9)", 9);
        due.is("set(1, 0)", 2);
        due.is("set(1, 9)", 0);
        due.is("set(2, 0)", 5);
        due.is("set(2, 9)", 0);
        due.is("count(0)", 9);
    }

    @Edge(of = "Promise 3", says = "NONE: what")
    static void nothingToSet(Due due) {
        due.is("set(-1, 5)", -1);
        due.is("set(3, 5)", -1);
        due.is("set(3, 10)", -1);
        due.is("set(-2147483648, -1)", -1);
    }

    @Edge(of = "Promise 3", says = "BAD: v.")
    static void badToSet(Due due) {
        for (int what = 0; what <= 2; what++) {
            due.is("set(" + what + ", -1)", -2);
            due.is("set(" + what + ", 10)", -2);
        }
        due.is("count(0)", 5);
    }

    // ---- promise 4

    @Edge(of = "Promise 4", says = "0 .. 2 as of set()")
    static void countsOfSet(Due due) {
        due.is("set(0, 0)", 5);
        due.is("set(1, 9)", 2);
        due.is("set(2, 8)", 5);
        due.is("count(0)", 0);
        due.is("count(1)", 9);
        due.is("count(2)", 8);
    }

    @Edge(of = "Promise 4", says = "3 STEPS")
    static void countOfSteps(Due due) {
        for (int n = 0; n < 12; n++) {
            due.is("count(3)", n);
            due.is("step(0, 0, 1)", n);
        }
        due.is("count(3)", 12);
        due.is("step(0, 0, 1)", -4);
        due.is("count(3)", 12);
    }

    @Edge(of = "Promise 4", says = "4 TEXTS")
    static void countOfTexts(Due due) {
        for (int n = 1; n < 6; n++) {
            due.is("count(4)", n);
            due.text(TEXT, n);
        }
        due.is("count(4)", 6);
        due.text(TEXT, -4);
        due.is("count(4)", 6);
    }

    @Edge(of = "Promise 4", says = "5 THE LAW")
    static void countOfTheLaw(Due due) {
        due.is("count(5)", 0);
        for (int t = 1; t <= 5; t++) {
            due.text(TEXT, t);
        }
        due.is("count(5)", 0);
        due.is("force(5)", 0);
        due.is("count(5)", 5);
    }

    @Edge(of = "Promise 4", says = "6 bytes of THE TAPE")
    static void countOfTheTape(Due due) {
        due.is("count(6)", 0);
        due.is("feed(0, 1)", 1);
        due.is("count(6)", 1);
        due.is("text()", -100);
        due.is("count(6)", 0);
        due.tape(" ".repeat(160));
        due.is("count(6)", 160);
    }

    @Edge(of = "Promise 4", says = "BAD.")
    static void nothingToCount(Due due) {
        due.is("count(-1)", -2);
        due.is("count(7)", -2);
        due.is("count(2147483647)", -2);
        due.is("count(-2147483648)", -2);
    }

    // ---- promise 5

    @Edge(of = "Promise 5", says = FED)
    static void oneByte(Due due) {
        // of more than one byte the lowest
        due.tape("draw 1 ; tears 0 ; sticks ");
        due.is("feed(" + 0x31313137L + ", 1)", 27);
        due.is("feed(59, 1)", 28);
        due.is("text()", 1);
        due.is("force(1)", 0);
        due.steps("3, 0, 1");
        due.is("whole(1, 1)", 930000000);
    }

    @Edge(of = "Promise 5", says = FED)
    static void eightBytes(Due due) {
        due.is("feed(" + 0x6472617720313b74L + ", 8)", 8);
        due.is("feed(" + 0x6561727320303b73L + ", 8)", 16);
        due.is("feed(" + 0x7469636b7320373bL + ", 8)", 24);
        due.is("text()", 1);
        due.is("force(1)", 0);
        due.steps("3, 0, 1");
        due.is("whole(1, 1)", 930000000);
    }

    @Edge(of = "Promise 5", says = FED)
    static void bytesAbove127(Due due) {
        // none of them is a blank, a letter or a digit less 128
        due.is("feed(-1, 8)", 8);
        due.is("text()", -100);
        due.tape("draw 1 ; tears 0 ; sticks 0 ;");
        due.is("feed(" + (32 + 128) + ", 1)", 30);
        due.is("text()", -129);
        due.is("feed(" + Long.MIN_VALUE + ", 8)", 8);
        due.is("text()", -100);
    }

    @Edge(of = "Promise 5", says = "come behind THE TAPE's: how many it has.")
    static void howManyTheTapeHas(Due due) {
        int has = 0;
        for (int n = 1; n <= 8; n++) {
            has += n;
            due.is("feed(0, " + n + ")", has);
        }
        due.is("count(6)", 36);
    }

    @Edge(of = "Promise 5", says = "BAD: n not 1 .. 8")
    static void noByteAndNine(Due due) {
        due.is("feed(32, 0)", -2);
        due.is("feed(32, -1)", -2);
        due.is("feed(32, 9)", -2);
        due.is("feed(32, 2147483647)", -2);
        due.is("feed(32, -2147483648)", -2);
        due.is("count(6)", 0);
    }

    @Edge(of = "Promise 5", says = "FULL.")
    static void theTapeIsFull(Due due) {
        due.tape(" ".repeat(152));
        due.is("feed(0, 8)", 160);
        due.is("feed(0, 1)", -4);
        due.is("text()", -252);
        due.tape(" ".repeat(153));
        due.is("feed(0, 8)", -4);
        due.is("count(6)", 153);
        due.is("feed(0, 7)", 160);
        due.is("feed(0, 8)", -4);
    }

    // ---- promise 6

    @Edge(of = "Promise 6", says = READ)
    static void theTapeIsEmptyThen(Due due) {
        due.text(TEXT, 1);
        due.is("count(6)", 0);
        due.text(TEXT, 2);
        due.text("draw", -104);
        due.is("count(6)", 0);
        due.text(TEXT, 3);
    }

    @Edge(of = "Promise 6", says = READ)
    static void aTextIsNotTheLawYet(Due due) {
        due.text("draw 1 ; tears 0 ; sticks 7 ;", 1);
        due.steps("3, 0, 1");
        due.is("count(5)", 0);
        due.is("whole(1, 1)", 980000000);
    }

    @Edge(of = "Promise 6", says = "-100 less the place of its FAULT.")
    static void thePlaceOfItsFault(Due due) {
        due.text(";", -100);
        due.text("draw ;", -105);
        due.text(" ".repeat(159) + ";", -259);
        due.text(" ".repeat(160), -260);
        due.is("count(4)", 1);
    }

    @Edge(of = "Promise 6", says = "-100 less the place of its FAULT.")
    static void aFaultMakesNoText(Due due) {
        due.text("draw 1 ; tears 0 ; sticks 7 ; ;", -130);
        due.is("force(1)", -2);
        due.text("draw 1 ; tears 0 ; sticks 9 ;", 1);
        due.is("force(1)", 0);
        due.steps("3, 0, 1");
        due.is("whole(1, 1)", 910000000);
    }

    @Edge(of = "Promise 6", says = "-100 less the place of its FAULT.")
    static void nothingOfAFaultIsLeft(Due due) {
        String faulty = "draw wet" + "+wet".repeat(37);
        for (int i = 0; i < 5; i++) {
            due.text(faulty, -100 - faulty.length());
        }
        due.text("draw 1 ; tears 0 ; sticks 1 + 2 * 3 ;", 1);
        due.is("force(1)", 0);
        due.steps("3, 0, 1");
        due.is("whole(1, 1)", 930000000);
    }

    @Edge(of = "Promise 6", says = FULL_TEXTS)
    static void textsAreFull(Due due) {
        for (int t = 1; t <= 5; t++) {
            due.text(TEXT, t);
        }
        due.text(TEXT, -4);
        due.is("count(6)", TEXT.length());
        due.is("text()", -4);
        due.is("count(6)", TEXT.length());
    }

    @Edge(of = "Promise 6", says = FULL_TEXTS)
    static void fullAheadOfAFault(Due due) {
        for (int t = 1; t <= 5; t++) {
            due.text("draw 1 ; tears 0 ; sticks " + t + " ;", t);
        }
        due.is("text()", -4);
        due.text(";", -4);
        due.is("count(6)", 1);
        // TEXT 5 is as it was
        due.is("force(5)", 0);
        due.steps("3, 0, 1");
        due.is("whole(1, 1)", 950000000);
    }

    // ---- promise 7

    @Edge(of = "Promise 7", says = "A TEXT is THE LAW: which was.")
    static void whichWasTheLaw(Due due) {
        for (int t = 1; t <= 5; t++) {
            due.text("draw 1 ; tears 0 ; sticks " + t + " ;", t);
        }
        due.is("force(0)", 0);
        due.is("force(5)", 0);
        due.is("force(5)", 5);
        due.is("force(0)", 5);
        due.is("count(5)", 0);
    }

    @Edge(of = "Promise 7", says = "BAD.")
    static void noSuchText(Due due) {
        due.is("force(-1)", -2);
        due.is("force(1)", -2);
        due.text(TEXT, 1);
        due.is("force(2)", -2);
        due.is("force(2147483647)", -2);
        due.is("force(-2147483648)", -2);
        due.is("count(5)", 0);
    }

    // ---- promise 8

    @Edge(of = "Promise 8", says = "A STEP (KIND, MORE, PACE): its number.")
    static void theNumberOfAStep(Due due) {
        due.is("step(0, 0, 1)", 0);
        due.is("step(5, 9, 9)", 1);
        due.is("forget()", 1);
        due.is("step(4, 3, 2)", 1);
        due.is("stepTold(1, 0)", 4);
        due.is("stepTold(1, 1)", 3);
        due.is("stepTold(1, 2)", 2);
    }

    @Edge(of = "Promise 8", says = "BAD; FULL.")
    static void noSuchStepIsMade(Due due) {
        String[] bad = {"-1, 5, 5", "6, 5, 5", "1, -1, 5", "1, 10, 5", "1, 5, 0", "1, 5, 10", "2147483647, 5, 5",
            "-2147483648, 5, 5", "1, 2147483647, 5", "1, 5, -2147483648"};
        for (String step : bad) {
            due.is("step(" + step + ")", -2);
        }
        due.is("count(3)", 0);
    }

    @Edge(of = "Promise 8", says = "BAD; FULL.")
    static void thirteenSteps(Due due) {
        for (int s = 0; s < 12; s++) {
            due.is("step(1, 1, 1)", s);
        }
        due.is("step(1, 1, 1)", -4);
        due.is("step(6, 1, 1)", -2);
        due.is("forget()", 11);
        due.is("step(1, 1, 1)", 11);
        due.is("step(1, 1, 1)", -4);
    }

    // ---- promise 9

    @Edge(of = "Promise 9", says = FORGOTTEN)
    static void theLatestOfTwelve(Due due) {
        for (int s = 0; s < 12; s++) {
            due.is("step(4, " + s % 10 + ", 1)", s);
        }
        due.is("forget()", 11);
        due.is("stepTold(11, 0)", -5);
        due.is("stepTold(10, 1)", 0);
        due.is("state(12, 5)", -5);
    }

    @Edge(of = "Promise 9", says = FORGOTTEN)
    static void theOnlyOne(Due due) {
        due.steps("1, 1, 1");
        due.is("forget()", 0);
        due.is("count(3)", 0);
        due.is("stepTold(0, 0)", -5);
        due.is("stop(0)", 0);
    }

    @Edge(of = "Promise 9", says = "STATE: there is none.")
    static void noneToForget(Due due) {
        due.is("forget()", -3);
        due.steps("1, 1, 1");
        due.is("forget()", 0);
        due.is("forget()", -3);
        due.is("step(1, 1, 1)", 0);
    }

    // ---- promise 10

    @Edge(of = "Promise 10", says = TOLD)
    static void theFirstAndTheLastStepTold(Due due) {
        due.steps("5, 9, 9");
        for (int s = 1; s < 11; s++) {
            due.steps("1, 1, 1");
        }
        due.steps("0, 0, 1");
        int[][] told = {{5, 9, 9, 12}, {0, 0, 1, 0}};
        for (int what = 0; what <= 3; what++) {
            due.is("stepTold(0, " + what + ")", told[0][what]);
            due.is("stepTold(11, " + what + ")", told[1][what]);
        }
    }

    @Edge(of = "Promise 10", says = "-5: no such STEP")
    static void noSuchStepToTell(Due due) {
        due.is("stepTold(0, 0)", -5);
        due.steps("1, 1, 1");
        due.is("stepTold(1, 0)", -5);
        due.is("stepTold(-1, 0)", -5);
        due.is("stepTold(12, 0)", -5);
        due.is("stepTold(2147483647, 9)", -5);
        due.is("stepTold(-2147483648, 9)", -5);
    }

    @Edge(of = "Promise 10", says = "-7: what.")
    static void whatToTell(Due due) {
        due.steps("1, 1, 1");
        due.is("stepTold(0, -1)", -7);
        due.is("stepTold(0, 4)", -7);
        due.is("stepTold(0, 2147483647)", -7);
    }
}
