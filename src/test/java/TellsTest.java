import java.util.ArrayList;
import java.util.List;

/** Promises 21 to 28: what a test shows, where a little more matters, cooking. */
public final class TellsTest {
    private static final Due due = new Due("TellsTest");
    private static final String[] TESTS = {"judge(%d, %d, 0)", "serves(%d, %d, 0)", "which(%d, %d)", "fault(%d, %d)"};

    private TellsTest() {
    }

    public static void main(String[] args) {
        refusals();
        judge();
        sorts();
        film();
        serves();
        servesAsSet();
        which();
        fault();
        uneven();
        cooks();
        pot();
        due.end();
    }

    private static void refusals() {
        for (String test : TESTS) {
            due.fresh("refusals of " + test);
            due.is(String.format(test, 1, 9), -5);
            due.is(String.format(test, -1, 0), -5);
            due.is(String.format(test, 0, 4), -2);
            due.is(String.format(test, 0, -1), -2);
            due.is(String.format(test, 0, 2), -11);
            due.is("sheet(2, 2, 11)", 1);
            due.is(String.format(test, 0, 2), -2);
            due.is("sheet(2, 2, 13)", 1);
            due.is(String.format(test, 0, 2), -2);
            due.is("sheet(2, -1, 12)", 1);
            due.is(String.format(test, 0, 2), -11);
        }
        due.fresh("refusals of what comes last");
        due.is("judge(0, 0, -1)", -11);
        due.is("serves(0, 0, 3)", -11);
        due.is("sheet(0, 0, 3)", 1);
        due.is("judge(0, 0, -1)", -2);
        due.is("serves(0, 0, 3)", -2);
        due.is("sheet(0, 0, 12)", 1);
        due.is("judge(0, 0, -1)", -7);
        due.is("judge(0, 0, 10000)", -7);
        due.is("serves(0, 0, 3)", -7);
        due.is("serves(0, 0, -1)", -7);
    }

    private static void judge() {
        due.fresh("promise 21");
        due.sheetTells(1, 600, 600, 600, 650, 600, 540, 600, 600, 600, 600, 600, 600);
        due.is("judge(0, 1, 49)", 3);
        due.is("judge(0, 1, 50)", 5);
        due.is("judge(0, 1, 59)", 5);
        due.is("judge(0, 1, 60)", -1);
        due.is("judge(0, 1, 9999)", -1);
        due.is("cell(1, 11, -2147483648)", 1);
        due.is("judge(0, 1, 9999)", 11);
        due.is("cell(1, 10, 2147483647)", 1);
        due.is("judge(0, 1, 9999)", 10);
        due.is("step(1, 9, 1)", 0);
        due.is("judge(1, 1, 284)", 0);
        due.is("judge(1, 1, 285)", 3);
    }

    private static void sorts() {
        due.fresh("promise 21, sheets of bytes and shorts");
        for (int c = 0; c < 12; c++) {
            due.is("roll(" + c + ", 0, 10000)", 60000);
        }
        due.is("sheet(0, 0, 12)", 1);
        due.is("sheet(1, 1, 12)", 1);
        for (int c = 0; c < 12; c++) {
            due.is("cell(0, " + c + ", 356)", 1);
            due.is("cell(1, " + c + ", 65636)", 1);
        }
        due.is("judge(0, 0, 0)", -1);
        due.is("judge(0, 1, 0)", -1);
        due.is("roll(4, 0, 20000)", 10000);
        due.is("cell(0, 4, 200)", 1);
        due.is("judge(0, 0, 0)", 4);
        due.is("judge(0, 0, 255)", 4);
        due.is("judge(0, 0, 256)", -1);
    }

    private static void film() {
        due.fresh("promise 22");
        due.is("film(0, 4)", -2);
        due.is("film(0, -1)", -2);
        due.is("film(1, 4)", -5);
        due.is("film(-1, 0)", -5);
        due.is("roll(7, 0, 99999)", 60000);
        due.is("film(0, 3)", 12);
        due.is("judge(0, 3, 0)", -1);
        due.is("cell(3, 11, 600)", 1);
        due.is("cell(3, 12, 600)", -12);
        due.is("sheet(2, 2, 1)", 1);
        due.is("copy(3, 7, 2, 0, 1)", 1);
        due.is("sheet(2, 0, 40)", 1);
        due.is("film(0, 2)", 12);
        due.is("copy(2, 0, 3, 0, 12)", 12);
        due.is("copy(2, 0, 3, 0, 13)", -12);
        due.is("judge(0, 2, 0)", -1);
        due.is("cell(2, 7, 998)", 1);
        due.is("judge(0, 2, 0)", 7);
        due.is("judge(0, 2, 1)", -1);
    }

    private static void serves() {
        due.fresh("promise 23");
        due.law("(thick = 300) * wet + 1", "0", "0");
        due.is("roll(0, 0, 30000)", 60000);
        due.is("step(1, 9, 1)", 0);
        due.is("film(1, 0)", 12);
        due.is("serves(1, 0, 0)", 1 << 5);
        due.is("serves(1, 0, 1)", 1023);
        due.is("serves(1, 0, 2)", 1023);
        due.is("serves(0, 0, 0)", 0);
        due.is("film(0, 0)", 12);
        due.is("serves(0, 0, 0)", 1023);
        due.is("set(0, 9)", 5);
        due.is("film(1, 0)", 12);
        due.is("set(0, 2)", 9);
        due.is("serves(1, 0, 0)", 1 << 9);
        due.is("count(0)", 2);
    }

    /** A number serves, if the test shows nothing wrong when it is set. */
    private static void servesAsSet() {
        due.fresh("promise 23, as if set");
        due.is("roll(0, 1, 20)", 100);
        due.is("step(1, 9, 9)", 0);
        due.is("step(0, 9, 1)", 1);
        due.is("step(1, 9, 5)", 2);
        due.is("set(2, 8)", 5);
        due.is("film(3, 0)", 12);
        for (int what = 0; what <= 2; what++) {
            long was = due.ask("count(" + what + ")");
            long bits = due.ask("serves(3, 0, " + what + ")");
            for (int v = 0; v <= 9; v++) {
                due.ask("set(" + what + ", " + v + ")");
                long off = due.ask("judge(3, 0, 0)");
                due.same("serving of " + v + " as " + what, bits >> v & 1, off == -1 ? 1 : 0);
            }
            due.is("set(" + what + ", " + was + ")", 9);
            due.same("it serves as it is", bits >> was & 1, 1);
        }
        // CELL 0 is STIFF by 84 times 90 by 104, 72, the others by 41: from WARM 7 on 9 minutes take that;
        // at WARM 0 all are too STIFF for an EASE above 1
        due.is("serves(3, 0, 2)", 0b1110000001);
    }

    private static void which() {
        due.fresh("promise 24");
        due.is("roll(0, 0, 30000)", 60000);
        due.law("(thick = 300) * 5 + 1", "0", "0");
        due.law("(thick < 301) * 5 + 1", "1", "2");
        due.law("(thick < 301) * 6 + 1", "1", "2");
        due.is("step(1, 9, 1)", 0);
        due.is("force(1)", 3);
        due.is("film(1, 0)", 12);
        due.is("which(1, 0)", 0b110);
        due.is("which(0, 0)", 0);
        due.is("force(3)", 1);
        due.is("which(1, 0)", 0b110);
        due.is("film(1, 0)", 12);
        due.is("which(1, 0)", 0b1000);
        due.is("film(0, 0)", 12);
        due.is("which(0, 0)", 0b1111);
        due.is("count(5)", 3);
    }

    private static void fault() {
        due.fresh("promise 25");
        for (int c = 0; c < 12; c++) {
            due.is("roll(" + c + ", 1, 400)", 100);
        }
        List<String> steps = new ArrayList<>(List.of("1, 3, 1", "3, 0, 1", "1, 3, 1", "0, 2, 1", "1, 7, 4"));
        for (int s = 0; s < steps.size(); s++) {
            due.is("step(" + steps.get(s) + ")", s);
        }
        due.is("film(4, 1)", 12);
        // LENGTH 520, 260, 338: THICK 88, with the fold or without it
        due.is("fault(5, 1)", 4);
        due.is("fault(4, 1)", 1);
        due.is("fault(3, 1)", 1);
        due.is("fault(2, 1)", -1);
        due.is("fault(0, 1)", -1);
        due.is("film(1, 1)", 12);
        due.is("fault(3, 1)", 0);
        due.is("count(3)", 5);
    }

    private static void uneven() {
        due.fresh("promise 26");
        due.is("uneven(0, 0)", 0);
        due.is("uneven(0, 1)", 60);
        due.is("roll(5, 0, 90000)", 60000);
        due.is("uneven(0, 0)", 5);
        due.is("uneven(0, 1)", 90);
        due.is("roll(3, 1, 1)", 100);
        due.is("roll(3, 0, 99999)", 60000);
        due.is("uneven(0, 0)", 3);
        due.is("uneven(0, 1)", 9999);
        due.is("taken(3, 6)", 99999);
        due.is("uneven(1, 0)", -5);
        due.is("uneven(1, 2)", -5);
        due.is("uneven(0, 2)", -7);
        due.is("uneven(0, -1)", -7);
        due.fresh("promise 26, a tenth, cut");
        for (int c = 0; c < 12; c++) {
            due.is("roll(" + c + ", 0, " + (c < 8 ? 9 : 19) + ")", 60000);
            due.is("roll(" + c + ", 1, 1)", 100);
        }
        due.is("uneven(0, 0)", 8);
        due.is("uneven(0, 1)", 1);
        due.fresh("promise 26, as it is rolled, ahead of the STEPS");
        due.is("roll(2, 0, 90000)", 60000);
        due.is("step(3, 0, 1)", 0);
        // CELLS 2 and 9: 150000 by 4, LENGTH 50: 750; with 9000 more 795; of others 30 more
        due.is("uneven(1, 0)", 2);
        due.is("uneven(1, 1)", 45);
    }

    private static void cooks() {
        due.fresh("promise 27");
        due.is("roll(0, 0, 30000)", 60000);
        due.is("roll(1, 0, 20000)", 60000);
        int[][] cooked = {{0, 12, 0, 0}, {199, 12, 0, 0}, {200, 11, 1, 0}, {399, 10, 2, 0}, {400, 10, 1, 1},
            {599, 10, 1, 1}, {600, 0, 10, 2}, {1199, 0, 10, 2}, {1200, 0, 0, 12}, {9999, 0, 0, 12}};
        for (int[] row : cooked) {
            for (int what = 0; what <= 2; what++) {
                due.is("cooks(0, " + row[0] + ", " + what + ")", row[what + 1]);
            }
        }
        due.is("roll(2, 0, 99)", 60000);
        due.is("cooks(0, 0, 2)", 1);
        due.is("step(1, 9, 1)", 0);
        due.is("cooks(1, 315, 1)", 9);
        due.is("cooks(2, 0, 0)", -5);
        due.is("cooks(2, -1, 3)", -5);
        due.is("cooks(0, -1, 0)", -7);
        due.is("cooks(0, 10000, 0)", -7);
        due.is("cooks(0, 0, 3)", -7);
        due.is("cooks(0, 0, -1)", -7);
    }

    private static void thick(int from, int thick) {
        for (int c = from; c < from + 4; c++) {
            due.is("roll(" + c + ", 0, " + thick * 100 + ")", 60000);
        }
    }

    private static void pot() {
        due.fresh("promise 28");
        thick(0, 100);
        thick(4, 150);
        thick(8, 199);
        due.is("pot(0)", 199);
        due.is("pot(1)", -5);
        due.is("pot(-1)", -5);
        due.fresh("promise 28, of like ones the fewest");
        thick(0, 100);
        thick(4, 200);
        thick(8, 150);
        due.is("pot(0)", 150);
        due.is("step(1, 9, 1)", 0);
        due.is("pot(1)", 78);
        for (int c = 0; c < 12; c++) {
            due.fresh("promise 28, by CELL " + c);
            thick(0, 100);
            thick(4, 100);
            thick(8, 100);
            due.is("roll(" + c + ", 0, 19000)", 10000);
            due.is("pot(0)", 190);
        }
        due.fresh("promise 28, nothing to be done");
        for (int c = 0; c < 12; c++) {
            due.is("roll(" + c + ", 0, 99)", 60000);
        }
        due.is("pot(0)", 0);
        due.is("roll(6, 1, 1)", 100);
        due.is("roll(6, 0, 99999)", 99);
        due.is("pot(0)", 99999);
    }
}
