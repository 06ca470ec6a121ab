/** Promises 16 to 20: how to draw, rest, dust, double. */
public final class HowTest {
    private static final Due due = new Due("HowTest");

    private HowTest() {
    }

    public static void main(String[] args) {
        window();
        pace();
        rest();
        restsRefused();
        dust();
        doublings();
        due.end();
    }

    /** THICK ones are drawn more easily from PACE 5 on; CELL 0 is half as thick as the others. */
    private static void drawnByPace() {
        due.law("(thick = 600) * (4 < pace) * 50 + 10", "0", "0");
        due.is("roll(0, 0, 30000)", 60000);
    }

    private static void window() {
        due.fresh("promise 16");
        drawnByPace();
        // from PACE 5 on 545 and 294 (545 times 300 is less than 600 times 294), below it 545 and 272 (not less)
        due.is("window(0, 1)", 0b1111100000);
        due.is("window(0, 0)", 0);
        due.is("window(1, 0)", -5);
        due.is("window(-1, 10)", -5);
        due.is("window(0, 10)", -7);
        due.is("window(0, -1)", -7);
        due.is("step(4, 1, 1)", 0);
        due.is("window(1, 1)", 0b1111100000);
        due.is("rope(0, 0, 1)", 100);
        due.is("rope(1, 0, 1)", 100);
        // LENGTHS 117 and 196 or 197, THICK 256 and 306 or 304; below PACE 5 it is 157 and 315 (not less)
        due.is("window(0, 9)", 0b1111100000);
        due.fresh("promise 16, a least THICK of 0");
        due.is("roll(3, 0, 1)", 60000);
        due.is("window(0, 1)", 0b1111111110);
        due.is("window(0, 0)", 0);
    }

    private static void pace() {
        due.fresh("promise 17");
        due.law("(thick = 600) * (4 < pace) * 50 + 10", "(pace < 4) * 5 + (6 < pace) * 3", "0");
        due.is("roll(0, 0, 30000)", 60000);
        due.is("pace(0, 1, 0)", 4);
        // SPREAD 273 below PACE 5, 251 from there on
        due.is("pace(0, 1, 1)", 5);
        due.is("pace(0, 0, 1)", 1);
        due.is("pace(0, 9, 0)", 4);
        due.is("step(3, 0, 1)", 0);
        due.is("pace(1, 2, 0)", 4);
        due.is("pace(2, 1, 0)", -5);
        due.is("pace(2, 10, 2)", -5);
        due.is("pace(0, 10, 0)", -7);
        due.is("pace(0, -1, 0)", -7);
        due.is("pace(0, 1, 2)", -7);
        due.is("pace(0, 1, -1)", -7);
        due.fresh("promise 17, the greatest PACE");
        due.law("9 - pace + (thick = 300) * pace", "10 - pace", "0");
        due.is("roll(0, 0, 30000)", 60000);
        due.is("pace(0, 1, 0)", 9);
        due.is("pace(0, 1, 1)", 1);
    }

    private static void rest() {
        due.fresh("promise 18");
        due.law("1", "20 < stiff", "0");
        due.is("step(1, 9, 9)", 0);
        due.is("whole(1, 0)", 886384868);
        // STIFF 42, 6 less a minute; 18 behind four
        due.is("rest(1, 9, 100)", 4);
        due.is("rest(1, 9, 89)", 4);
        due.is("rest(1, 9, 88)", 0);
        due.is("rest(1, 9, 0)", 0);
        due.is("set(2, 0)", 5);
        due.is("rest(1, 9, 100)", 22);
        // by 9 tenths at PACE 1 STIFF is 4 more (of LENGTH 361 it is 171), at PACE 2 it is 9
        due.is("rest(1, 91, 100)", 26);
        due.is("rest(1, 92, 100)", -1);
        due.is("set(2, 1)", 0);
        due.is("rest(1, 92, 100)", 16);
        due.is("rope(1, 0, 2)", 42);
        due.fresh("promise 18, the most minutes");
        due.law("1", "12 < stiff", "0");
        due.is("step(1, 9, 9)", 0);
        due.is("set(2, 0)", 5);
        due.is("rest(1, 9, 100)", 30);
        due.law("1", "11 < stiff", "0");
        due.is("rest(1, 9, 100)", -1);
    }

    private static void restsRefused() {
        due.fresh("promise 18, refusals");
        due.is("rest(1, 55, 50)", -5);
        due.is("rest(-1, 0, 101)", -5);
        due.is("rest(0, 0, 50)", -7);
        due.is("rest(0, 10, 50)", -7);
        due.is("rest(0, 90, 50)", -7);
        due.is("rest(0, 100, 50)", -7);
        due.is("rest(0, -1, 50)", -7);
        due.is("rest(0, -15, 50)", -7);
        due.is("rest(0, 11, 101)", -7);
        due.is("rest(0, 11, -1)", -7);
        due.is("rest(0, 1, 100)", 0);
        due.is("rest(0, 99, 100)", 0);
    }

    private static void dust() {
        due.fresh("promise 19");
        due.law("1", "0", "30 - dust + (folds = 0) * 50 + pace");
        due.is("dust(0, 5)", 25);
        due.is("dust(0, 0)", 30);
        due.is("dust(0, 100)", 0);
        due.is("dust(0, 30)", 0);
        due.is("dust(0, 29)", 1);
        due.is("step(4, 9, 1)", 0);
        due.is("step(3, 9, 1)", 1);
        due.is("dust(1, 0)", 21);
        due.is("dust(2, 10)", 11);
        due.is("state(1, 5)", 9);
        due.is("dust(3, 0)", -5);
        due.is("dust(3, 101)", -5);
        due.is("dust(0, 101)", -7);
        due.is("dust(0, -1)", -7);
        due.fresh("promise 19, the most DUST");
        due.law("1", "0", "130 - dust");
        due.is("dust(0, 31)", 99);
        due.is("dust(0, 30)", -1);
        for (int s = 0; s < 10; s++) {
            due.is("step(4, 9, 1)", s);
        }
        due.is("dust(10, 31)", 9);
        due.is("dust(10, 30)", -1);
    }

    private static void doublings() {
        due.fresh("promise 20");
        // THICK 300, 150, 75, 37, ..
        due.is("doublings(0, 1, 301)", 0);
        due.is("doublings(0, 1, 300)", 1);
        due.is("doublings(0, 1, 75)", 3);
        due.is("doublings(0, 1, 38)", 3);
        due.is("doublings(0, 9, 37)", 4);
        due.is("doublings(0, 1, 9999)", 0);
        due.is("doublings(1, 1, 1)", -5);
        due.is("doublings(1, 0, 0)", -5);
        due.is("doublings(0, 0, 1)", -7);
        due.is("doublings(0, 10, 1)", -7);
        due.is("doublings(0, 1, 0)", -7);
        due.is("doublings(0, 1, 10000)", -7);
        due.is("step(1, 9, 1)", 0);
        due.is("step(1, 9, 1)", 1);
        due.is("doublings(2, 1, 83)", 1);
        due.is("doublings(2, 1, 84)", 0);
        due.is("rope(2, 0, 0)", 166);
        due.fresh("promise 20, most of all");
        for (int c = 0; c < 12; c++) {
            due.is("roll(" + c + ", 0, 99999)", 60000);
            due.is("roll(" + c + ", 1, 1)", 100);
        }
        due.is("doublings(0, 1, 1)", 16);
    }
}
