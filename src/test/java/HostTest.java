/** Promises 40 to 44: the host's sheets, and what lies where. */
public final class HostTest {
    private static final Due due = new Due("HostTest");

    private HostTest() {
    }

    public static void main(String[] args) {
        sheet();
        cell();
        copy();
        copyOntoItself();
        stepsBy();
        stepsByUntilFull();
        stepsBySorts();
        taken();
        due.end();
    }

    private static void sheet() {
        due.fresh("promise 40");
        for (int s = 0; s < 4; s++) {
            due.is("cell(" + s + ", 0, 1)", -11);
            due.is("sheet(" + s + ", " + s % 3 + ", 40)", 1);
            due.is("cell(" + s + ", 39, 1)", 1);
            due.is("cell(" + s + ", 40, 1)", -12);
        }
        due.is("sheet(-1, 0, 1)", -2);
        due.is("sheet(4, 0, 1)", -2);
        due.is("sheet(4, 0, -1)", -2);
        due.is("sheet(0, -2, 1)", -2);
        due.is("sheet(0, 3, 1)", -2);
        due.is("sheet(0, 3, -1)", -2);
        due.is("sheet(0, 0, 41)", -2);
        due.is("sheet(0, 0, -1)", -14);
        due.is("sheet(0, 0, -2147483648)", -14);
        due.is("cell(0, 39, 1)", 1);
        due.is("sheet(0, 0, 0)", 1);
        due.is("cell(0, 0, 1)", -12);
        due.is("sheet(0, -1, 41)", 1);
        due.is("cell(0, 0, 1)", -11);
        due.is("sheet(0, -1, -1)", 1);
        // all are 0, when it is made and when it is made anew: STEPS of PACE 0 are none, THICK is above 0
        due.is("sheet(1, 2, 12)", 1);
        due.is("judge(0, 1, 600)", -1);
        due.is("judge(0, 1, 599)", 0);
        for (int i = 0; i < 12; i++) {
            due.is("cell(1, " + i + ", 9999)", 1);
            due.is("judge(0, 1, 600)", i);
            due.is("sheet(1, 2, 12)", 1);
            due.is("judge(0, 1, 600)", -1);
        }
        due.is("judge(0, 1, 599)", 0);
        // also what lay beyond the end of a shorter one
        due.is("sheet(1, 2, 40)", 1);
        for (int i = 0; i < 40; i++) {
            due.is("cell(1, " + i + ", 9999)", 1);
        }
        due.is("sheet(1, 2, 1)", 1);
        due.is("sheet(1, 2, 40)", 1);
        for (int from = 0; from <= 28; from += 4) {
            due.is("sheet(0, 2, 12)", 1);
            due.is("copy(1, " + from + ", 0, 0, 12)", 12);
            due.is("judge(0, 0, 600)", -1);
        }
    }

    private static void cell() {
        due.fresh("promise 41");
        due.is("cell(4, 0, 0)", -2);
        due.is("cell(-1, 0, 0)", -2);
        due.is("cell(0, 99, 0)", -11);
        due.is("sheet(0, 2, 3)", 1);
        due.is("cell(0, 3, 0)", -12);
        due.is("cell(0, -1, 0)", -12);
        due.is("cell(0, 2147483647, 0)", -12);
        due.is("cell(0, 0, 1)", 1);
        due.is("cell(0, 1, 9)", 1);
        due.is("cell(0, 2, 4)", 1);
        due.is("stepsBy(0, 2, 0, 1)", 1);
        due.is("stepTold(0, 0)", 1);
        due.is("stepTold(0, 1)", 9);
        due.is("stepTold(0, 2)", 4);
    }

    private static void copy() {
        due.fresh("promise 42");
        due.is("copy(0, 0, 4, 0, 0)", -2);
        due.is("copy(-1, 0, 1, 0, 0)", -2);
        due.is("copy(0, 0, 1, 0, 0)", -11);
        due.sheetTells(0, 1, 9, 4, 3, 0, 1, 7);
        due.is("copy(0, 0, 1, 0, 0)", -11);
        due.is("copy(1, 0, 0, 0, 0)", -11);
        due.is("sheet(1, 1, 9)", 1);
        due.is("copy(0, 0, 1, 0, 99)", -13);
        due.is("sheet(1, 2, 9)", 1);
        due.is("copy(0, 0, 1, 3, 6)", 6);
        due.is("copy(0, 0, 1, 3, 7)", -12);
        due.is("copy(0, 2, 1, 0, 6)", -12);
        due.is("copy(0, 0, 1, 0, 8)", -12);
        due.is("copy(0, -1, 1, 0, 1)", -12);
        due.is("copy(0, 0, 1, -1, 1)", -12);
        due.is("copy(0, 0, 1, 0, -1)", -12);
        due.is("copy(0, 8, 1, 0, 0)", -12);
        due.is("copy(0, 0, 1, 10, 0)", -12);
        due.is("copy(0, 2147483647, 1, 0, 2147483647)", -12);
        due.is("copy(0, 0, 1, 2147483647, 2)", -12);
        due.is("copy(0, 7, 1, 9, 0)", 0);
        due.is("stepsBy(1, 2, 0, 3)", 2);
        due.is("stepTold(0, 1)", 9);
        due.is("stepTold(1, 0)", 3);
    }

    /** They come as they were, to the right and to the left. */
    private static void copyOntoItself() {
        due.fresh("promise 42, its own");
        due.sheetTells(0, 1, 2, 3, 4, 5, 6, 0, 0, 0);
        due.is("copy(0, 0, 0, 1, 6)", 6);
        due.is("stepsBy(0, 2, 0, 2)", 2);
        due.is("stepTold(0, 1)", 1);
        due.is("stepTold(0, 2)", 2);
        due.is("stepTold(1, 0)", 3);
        due.is("stepTold(1, 2)", 5);
        due.is("copy(0, 1, 0, 0, 6)", 6);
        due.is("stepsBy(0, 2, 0, 2)", 2);
        due.is("stepTold(2, 0)", 1);
        due.is("stepTold(2, 1)", 2);
        due.is("stepTold(2, 2)", 3);
        due.is("stepTold(3, 0)", 4);
        due.is("stepTold(3, 1)", 5);
        due.is("stepTold(3, 2)", 6);
    }

    private static void stepsBy() {
        due.fresh("promise 43");
        due.is("stepsBy(4, 2, 0, 1)", -2);
        due.is("stepsBy(-1, 2, 0, 1)", -2);
        due.is("stepsBy(0, 3, 0, 1)", -2);
        due.is("stepsBy(0, -1, 0, 1)", -2);
        due.is("stepsBy(0, 2, 0, 13)", -2);
        due.is("stepsBy(0, 2, 0, -1)", -2);
        due.is("stepsBy(0, 2, 0, 1)", -11);
        due.sheetTells(0, 99, 1, 2, 3, 6, 2, 3, 2, 3, 4, 4, 5, 6, 5, 0);
        due.is("stepsBy(0, 1, 0, 1)", -13);
        due.is("stepsBy(0, 2, 0, 0)", 0);
        due.is("count(3)", 0);
        // 1 2 3, 6 2 3 (no KIND), 2 3 4, 4 5 6, then 5 0 and an end
        due.is("stepsBy(0, 2, 1, 4)", 3);
        due.is("stepTold(0, 0)", 1);
        due.is("stepTold(1, 0)", 2);
        due.is("stepTold(1, 1)", 3);
        due.is("stepTold(1, 2)", 4);
        due.is("stepTold(2, 0)", 4);
        due.is("count(3)", 3);
        due.is("stepsBy(0, 2, 7, 3)", -12);
        due.is("count(3)", 5);
        due.is("stepTold(3, 0)", 2);
        due.is("stepTold(4, 0)", 4);
        due.is("stepsBy(0, 2, -1, 2)", -12);
        due.is("stepsBy(0, 2, -3, 2)", -12);
        due.is("stepsBy(0, 2, 2147483647, 2)", -12);
        due.is("stepsBy(0, 2, -2147483648, 12)", -12);
        due.is("stepsBy(0, 2, 13, 1)", -12);
        due.is("stepsBy(0, 2, 14, 1)", -12);
        due.is("stepsBy(0, 2, 15, 1)", -12);
        due.is("count(3)", 5);
    }

    private static void stepsByUntilFull() {
        due.fresh("promise 43, until they are FULL");
        for (int s = 0; s < 10; s++) {
            due.is("step(0, 0, 1)", s);
        }
        due.sheetTells(2, 1, 1, 1, 2, 2, 2, 3, 3, 3, 4, 4, 4);
        due.is("stepsBy(2, 2, 0, 4)", 2);
        due.is("count(3)", 12);
        due.is("stepTold(11, 1)", 2);
        due.is("stepsBy(2, 2, 0, 5)", -12);
        due.is("stepsBy(2, 2, 0, 4)", 0);
    }

    /** Of bytes and shorts the lowest bits: 1 is left of 257, 65537 and the like, -1 of 255. */
    private static void stepsBySorts() {
        due.fresh("promise 41, of bytes and shorts");
        due.is("sheet(0, 0, 3)", 1);
        due.is("sheet(1, 1, 3)", 1);
        for (int i = 0; i < 3; i++) {
            due.is("cell(0, " + i + ", " + (256 * (i + 5) + i + 3) + ")", 1);
            due.is("cell(1, " + i + ", " + (65536 * (i + 5) + i + 1) + ")", 1);
        }
        due.is("stepsBy(0, 0, 0, 1)", 1);
        due.is("stepsBy(1, 1, 0, 1)", 1);
        due.is("stepTold(0, 0)", 3);
        due.is("stepTold(0, 1)", 4);
        due.is("stepTold(0, 2)", 5);
        due.is("stepTold(1, 0)", 1);
        due.is("stepTold(1, 1)", 2);
        due.is("stepTold(1, 2)", 3);
        due.is("cell(1, 0, 257)", 1);
        due.is("stepsBy(1, 1, 0, 1)", 0);
        due.is("sheet(3, 2, 3)", 1);
        due.is("cell(3, 0, 65537)", 1);
        due.is("cell(3, 2, 1)", 1);
        due.is("stepsBy(3, 2, 0, 1)", 0);
    }

    private static void taken() {
        due.fresh("promise 44");
        boolean[][] are = {
            {true, false, false, false, false, false}, {true, true, false, false, false, false},
            {true, true, true, false, false, false}, {true, false, false, true, false, false},
            {true, false, false, false, true, false}, {true, false, false, true, false, true},
        };
        for (int kind = 0; kind < 6; kind++) {
            due.is("step(" + kind + ", 1, 1)", kind);
            for (int as = 0; as < 6; as++) {
                due.is("taken(" + (12 + kind) + ", " + as + ")", are[kind][as] ? kind : -13);
            }
            due.is("taken(" + (12 + kind) + ", 6)", -13);
        }
        due.is("roll(11, 0, 321)", 60000);
        due.is("taken(11, 6)", 321);
        due.is("taken(0, 6)", 60000);
        due.is("taken(11, 0)", -13);
        due.is("taken(11, 5)", -13);
        due.is("taken(18, 0)", -11);
        due.is("taken(18, 6)", -11);
        due.is("taken(23, 3)", -11);
        due.is("taken(24, 0)", -12);
        due.is("taken(-1, 6)", -12);
        due.is("taken(0, 7)", -2);
        due.is("taken(0, -1)", -2);
        due.is("taken(24, 7)", -2);
    }
}
