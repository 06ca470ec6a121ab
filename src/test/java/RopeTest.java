/** Promises 11 to 15: the rope behind n steps, worked out by hand. */
public final class RopeTest {
    private static final Due due = new Due("RopeTest");

    private RopeTest() {
    }

    public static void main(String[] args) {
        refusals();
        shares();
        boundsOfEase();
        stiffness();
        longest();
        namesWhenDrawn();
        tears();
        rests();
        bounce();
        fold();
        sticks();
        dusts();
        cut();
        leastOfFoldAndCut();
        state();
        whole();
        stop();
        worst();
        due.end();
    }

    private static void lengths(int n, int... lengths) {
        for (int c = 0; c < lengths.length; c++) {
            due.is("rope(" + n + ", " + c + ", 1)", lengths[c]);
        }
    }

    private static void refusals() {
        due.fresh("promise 11, refusals");
        due.is("rope(-1, 0, 0)", -5);
        due.is("rope(1, 0, 0)", -5);
        due.is("rope(1, 12, 3)", -5);
        due.is("rope(0, 12, 0)", -7);
        due.is("rope(0, -1, 0)", -7);
        due.is("rope(0, 0, 3)", -7);
        due.is("rope(0, 0, -1)", -7);
        due.is("step(1, 9, 5)", 0);
        due.is("rope(1, 0, 1)", 190);
        due.is("rope(0, 0, 1)", 100);
        due.is("rope(2, 0, 0)", -5);
        due.is("count(3)", 1);
    }

    /** CELL 0 of EASE 1, the others of 99, 1090 in all: of 120 these get 0 and 10 each, 10 are left over. */
    private static void shares() {
        due.fresh("promise 11, shares");
        due.law("thick", "0", "0");
        due.is("roll(0, 0, 100)", 60000);
        due.is("step(1, 1, 9)", 0);
        lengths(1, 101, 111, 111, 111, 111, 111, 111, 111, 111, 111, 110, 110);
        due.is("rope(1, 0, 0)", 0);
        due.is("rope(1, 1, 0)", 540);
        due.is("rope(1, 0, 2)", 0);
        due.is("rope(1, 1, 2)", 8);
        due.is("rope(1, 11, 2)", 8);
        // EASES 30, 60 and ten times 10: 190 in all; of 120 it is 18, 37 and 6 each, 5 are left over
        due.fresh("promise 11, further shares");
        due.law("thick", "0", "0");
        for (int c = 0; c < 12; c++) {
            due.is("roll(" + c + ", 0, " + (c == 0 ? 3000 : c == 1 ? 6000 : 1000) + ")", 60000);
        }
        due.is("step(1, 1, 1)", 0);
        lengths(1, 119, 138, 107, 107, 107, 106, 106, 106, 106, 106, 106, 106);
        // 19 * 10 / 119, 38 * 10 / 138
        due.is("rope(1, 0, 2)", 1);
        due.is("rope(1, 1, 2)", 2);
        due.is("rope(1, 2, 2)", 0);
    }

    private static void boundsOfEase() {
        due.fresh("promise 11, the least EASE");
        due.law("0 - thick", "0", "0");
        due.is("roll(3, 0, 100)", 60000);
        due.is("step(1, 1, 1)", 0);
        lengths(1, 110, 110, 110, 110);
        due.fresh("promise 11, the greatest EASE");
        due.law("100 + thick", "0", "0");
        due.is("roll(3, 0, 100)", 60000);
        due.is("step(1, 1, 1)", 0);
        lengths(1, 110, 110, 110, 110);
        due.fresh("promise 11, an EASE of 0");
        due.law("0", "0", "0");
        due.is("step(1, 1, 1)", 0);
        lengths(1, 110, 110, 110, 110);
    }

    /** 100 to 190 to 361 to 685: shares 90, 171, 324; by 9: 42, 42, 42 stiff more; then 99 at most. */
    private static void stiffness() {
        due.fresh("promise 11, STIFF");
        due.is("step(1, 9, 9)", 0);
        due.is("step(1, 9, 9)", 1);
        due.is("step(1, 9, 9)", 2);
        due.is("rope(1, 5, 2)", 42);
        due.is("rope(2, 5, 1)", 361);
        due.is("rope(2, 5, 2)", 84);
        due.is("rope(3, 0, 2)", 99);
        // 4332 * 9 / 10 = 3898: 324 each and 10 left over
        due.is("rope(3, 0, 1)", 686);
        due.is("rope(3, 9, 1)", 686);
        due.is("rope(3, 10, 1)", 685);
        due.is("rope(3, 0, 0)", 87);
        due.fresh("promise 11, at no MORE");
        due.is("step(1, 0, 9)", 0);
        due.is("rope(1, 0, 1)", 100);
        due.is("rope(1, 0, 2)", 0);
        due.is("whole(1, 0)", 1000000000);
    }

    private static void longest() {
        due.fresh("promise 11, the greatest LENGTH");
        for (int c = 0; c < 12; c++) {
            due.is("roll(" + c + ", 1, 999)", 100);
        }
        for (int s = 0; s < 12; s++) {
            due.is("step(1, 9, 9)", s);
        }
        due.is("rope(12, 0, 1)", 1000000);
        due.is("rope(12, 11, 1)", 1000000);
        due.is("rope(12, 0, 0)", 0);
        due.is("state(12, 4)", 12000000);
    }

    /** draw is asked of the CELL as it was ahead of it, with the PACE of the STEP. */
    private static void namesWhenDrawn() {
        due.fresh("promise 11, names");
        due.law("(thick = 300) * 10 + (pace = 7) * (folds = 1) * (dust = 3) * (wet = 5) * 50", "0", "0");
        due.is("roll(11, 0, 30000)", 60000);
        due.is("step(1, 1, 7)", 0);
        // EASE 1 eleven times, 10 once: 21 in all; of 120 it is 5 each and 57, 8 are left over
        lengths(1, 106, 106, 106, 106, 106, 106, 106, 106, 105, 105, 105, 157);
        due.is("forget()", 0);
        due.is("step(3, 0, 1)", 0);
        due.is("step(4, 3, 1)", 1);
        due.is("roll(11, 0, 60000)", 30000);
        due.is("roll(11, 0, 30000)", 60000);
        due.is("step(1, 1, 7)", 2);
        // all of one EASE: 600 by 10 is 60, 5 each
        lengths(3, 55, 55, 55);
        due.is("rope(3, 0, 2)", 6);
    }

    private static void tears() {
        due.fresh("promise 13, tears of 7 for each CELL");
        due.law("1", "7", "0");
        due.is("step(1, 0, 1)", 0);
        due.is("whole(1, 0)", 418596295);
        due.is("whole(1, 1)", 1000000000);
        due.fresh("promise 13, tears of the new THICK");
        due.law("1", "thick = 400", "0");
        due.is("step(1, 5, 1)", 0);
        due.is("whole(1, 0)", 886384868);
        due.fresh("promise 13, tears of the old THICK");
        due.law("1", "thick = 600", "0");
        due.is("step(1, 5, 1)", 0);
        due.is("whole(1, 0)", 1000000000);
        due.fresh("promise 13, tears of the new STIFF, at a PACE");
        due.law("1", "(stiff = 10) * (pace = 3)", "0");
        due.is("step(1, 5, 3)", 0);
        due.is("whole(1, 0)", 886384868);
        due.fresh("promise 13, tears of 100 and more");
        due.law("1", "thick * 9", "0");
        due.is("step(2, 5, 3)", 0);
        due.is("whole(1, 0)", 0);
        due.is("whole(1, 2)", 0);
        due.fresh("promise 13, tears of 101 for one CELL");
        due.law("1", "(thick = 200) * 101", "0");
        due.is("roll(4, 1, 300)", 100);
        due.is("step(1, 0, 3)", 0);
        due.is("whole(1, 0)", 0);
        due.fresh("promise 13, tears of 99 for one CELL");
        due.law("1", "(thick = 200) * 99", "0");
        due.is("roll(4, 1, 300)", 100);
        due.is("step(1, 0, 3)", 0);
        due.is("whole(1, 0)", 10000000);
        due.fresh("promise 13, tears below 0");
        due.law("1", "0 - thick", "0");
        due.is("step(2, 5, 3)", 0);
        due.is("whole(1, 0)", 1000000000);
        due.fresh("promise 13, tears of one CELL, ahead of the bounce");
        due.law("1", "(thick = 200) * 10", "0");
        due.is("roll(4, 1, 300)", 100);
        due.is("step(2, 0, 3)", 0);
        due.is("whole(1, 0)", 900000000);
        due.is("rope(1, 4, 1)", 200);
    }

    private static void rests() {
        due.fresh("promise 11, a rest");
        due.is("step(1, 9, 9)", 0);
        due.is("step(0, 3, 1)", 1);
        due.is("step(0, 0, 9)", 2);
        due.is("step(0, 5, 1)", 3);
        due.is("rope(1, 4, 2)", 42);
        due.is("rope(2, 4, 2)", 24);
        due.is("rope(3, 4, 2)", 24);
        due.is("rope(4, 4, 2)", 0);
        due.is("rope(4, 4, 1)", 190);
        due.is("set(2, 0)", 5);
        due.is("rope(2, 4, 2)", 39);
        due.is("set(2, 9)", 0);
        due.is("rope(2, 4, 2)", 12);
    }

    private static void bounce() {
        due.fresh("promise 11, a bounce");
        due.is("roll(0, 1, 200)", 100);
        due.is("roll(11, 1, 305)", 100);
        due.is("step(2, 0, 1)", 0);
        lengths(1, 175, 125, 100, 100, 100, 100, 100, 100, 100, 100, 151, 253);
        due.fresh("promise 11, a bounce behind a pull");
        due.is("roll(5, 1, 2)", 100);
        due.law("1", "0", "0");
        due.is("step(2, 1, 9)", 0);
        // 1102 by 10: 110, 9 each and 2 left over: 110, 110, 109, 109, 109, 11, 109, ..
        lengths(1, 110, 109, 109, 109, 84, 60, 84, 109, 109, 109, 109, 109);
        due.is("rope(1, 5, 0)", 1000);
        // 9 * 90 by 11, ahead of the bounce
        due.is("rope(1, 5, 2)", 73);
        due.is("rope(1, 6, 2)", 7);
    }

    private static void fold() {
        due.fresh("promise 11, a fold");
        due.is("roll(0, 0, 1003)", 60000);
        due.is("roll(6, 0, 20000)", 60000);
        due.is("roll(1, 1, 1)", 100);
        due.is("roll(10, 1, 2)", 100);
        due.is("step(3, 0, 1)", 0);
        lengths(1, 50, 50, 1, 1, 50, 50, 50, 50, 50, 50, 50, 50);
        // CELLS 0 and 11, 1 and 10, .., 5 and 6 become CELLS 0 and 1, 2 and 3, .., 10 and 11
        int[] thick = {305, 305, 30000, 30000, 600, 600, 600, 600, 600, 600, 400, 400};
        for (int c = 0; c < 12; c++) {
            due.is("rope(1, " + c + ", 0)", thick[c]);
        }
        due.is("state(1, 3)", 1);
        due.fresh("promise 11, STIFF of a fold");
        due.is("roll(11, 1, 300)", 100);
        due.law("1", "0", "0");
        due.is("step(1, 9, 9)", 0);
        due.is("step(3, 0, 1)", 1);
        // 1400 * 9 / 10 = 1260: 105 each; 9450 / 205 = 46, 9450 / 405 = 23
        due.is("rope(1, 0, 2)", 46);
        due.is("rope(1, 11, 2)", 23);
        due.is("rope(2, 0, 2)", 34);
        due.is("rope(2, 1, 2)", 34);
        due.is("rope(2, 2, 2)", 46);
    }

    private static void sticks() {
        due.fresh("promise 13, sticks");
        due.is("step(3, 0, 1)", 0);
        due.is("step(3, 0, 1)", 1);
        due.is("step(4, 4, 1)", 2);
        due.is("step(3, 0, 1)", 3);
        due.is("whole(1, 1)", 980000000);
        due.is("whole(2, 1)", 940800000);
        due.is("whole(3, 1)", 940800000);
        // 6 less 5 of DUST
        due.is("whole(4, 1)", 921984000);
        due.is("whole(4, 0)", 1000000000);
        due.fresh("promise 13, sticks of CELL 0, as it is behind the fold, at no PACE");
        due.law("1", "0", "(thick = 450) * 10 + pace + (stiff = 23) * 3");
        due.is("roll(0, 0, 30000)", 60000);
        due.is("step(1, 9, 5)", 0);
        due.is("step(3, 0, 9)", 1);
        // 22500 by 95, STIFF 23
        due.is("whole(2, 1)", 970000000);
        due.is("roll(0, 1, 1)", 100);
        due.is("whole(2, 1)", 1000000000);
        due.fresh("promise 13, sticks of CELL 0's THICK");
        due.law("1", "0", "(thick = 450) * 10 + pace");
        due.is("roll(0, 0, 30000)", 60000);
        due.is("step(3, 0, 9)", 0);
        due.is("whole(1, 1)", 900000000);
        due.fresh("promise 13, sticks of more than 100");
        due.law("1", "0", "101");
        due.is("step(3, 0, 9)", 0);
        due.is("whole(1, 1)", 0);
        due.fresh("promise 13, sticks ahead of the cut");
        due.law("1", "0", "(thick = 600) * 2 + (thick = 0)");
        due.is("step(5, 9, 9)", 0);
        due.is("whole(1, 1)", 980000000);
    }

    private static void dusts() {
        due.fresh("promise 12, DUST");
        for (int s = 0; s < 12; s++) {
            due.is("step(4, 9, 1)", s);
        }
        due.is("state(1, 5)", 9);
        due.is("state(11, 5)", 99);
        due.is("state(12, 5)", 99);
    }

    private static void cut() {
        due.fresh("promise 12, CUT");
        due.is("roll(0, 0, 50001)", 60000);
        due.is("step(5, 7, 1)", 0);
        // 110001 by 4 is 27500, 7 tenths are 19250; the other end 30000, 21000
        due.is("state(1, 6)", 40250);
        due.is("rope(1, 0, 1)", 15);
        due.is("rope(1, 0, 0)", 550);
        due.is("rope(1, 11, 0)", 600);
        due.is("rope(1, 1, 0)", 550);
        due.is("rope(1, 1, 1)", 50);
        due.is("rope(1, 10, 1)", 50);
        due.is("step(5, 1, 1)", 1);
        // CELL 0: 8250 and 9000 by 4 is 4312, a tenth 431; CELL 11: 30000 and 30000 by 4, a tenth 1500
        due.is("state(2, 6)", 42181);
        due.is("state(2, 3)", 2);
        due.is("state(0, 6)", 0);
        due.is("rope(2, 0, 1)", 7);
        due.is("rope(2, 0, 0)", 554);
    }

    private static void leastOfFoldAndCut() {
        due.fresh("promise 11, the least of MUCH and LENGTH");
        for (int c = 0; c < 12; c++) {
            due.is("roll(" + c + ", 0, 1)", 60000);
            due.is("roll(" + c + ", 1, 1)", 100);
        }
        due.is("step(3, 0, 1)", 0);
        due.is("step(5, 9, 1)", 1);
        due.is("rope(1, 0, 0)", 0);
        due.is("rope(1, 0, 1)", 1);
        due.is("rope(2, 0, 0)", 1);
        due.is("rope(2, 11, 0)", 1);
        due.is("rope(2, 1, 0)", 0);
        due.is("rope(2, 0, 1)", 1);
        due.is("state(2, 6)", 0);
    }

    private static void state() {
        due.fresh("promise 12");
        due.is("roll(4, 0, 30000)", 60000);
        due.is("roll(7, 0, 30000)", 60000);
        due.is("roll(6, 0, 90000)", 60000);
        due.is("roll(9, 0, 90000)", 60000);
        due.is("state(0, 0)", 4);
        due.is("state(0, 1)", 6);
        due.is("state(0, 2)", 600);
        due.is("step(3, 0, 1)", 0);
        due.is("step(5, 0, 1)", 1);
        due.is("step(0, 9, 1)", 2);
        due.is("step(1, 9, 4)", 3);
        due.is("step(2, 9, 4)", 4);
        due.is("step(4, 8, 4)", 5);
        // 12 times 25, doubled twice; then 300, 570, 1083 in all, by the shares
        due.is("state(2, 4)", 1200);
        due.is("state(4, 4)", 2280);
        due.is("state(1, 7)", 3);
        due.is("state(6, 7)", 3 + 3 + 90 + 6 + 8 + 9);
        due.is("state(4, 3)", 2);
        due.is("state(6, 5)", 8);
        due.is("state(5, 5)", 0);
        due.is("state(7, 0)", -5);
        due.is("state(-1, 9)", -5);
        due.is("state(0, 8)", -7);
        due.is("state(0, -1)", -7);
    }

    private static void whole() {
        due.fresh("promise 13");
        due.law("1", "7", "13");
        due.is("step(1, 0, 1)", 0);
        due.is("step(3, 0, 1)", 1);
        due.is("whole(2, 0)", 418596295);
        due.is("whole(2, 1)", 870000000);
        // 364178776.65
        due.is("whole(2, 2)", 364178776);
        long no = PulledToAHair.NO;
        due.is("whole(3, 0)", no);
        due.is("whole(-1, 0)", no);
        due.is("whole(0, 3)", no);
        due.is("whole(0, -1)", no);
    }

    private static void stop() {
        due.fresh("promise 14");
        due.is("stop(100)", 0);
        due.is("stop(0)", 0);
        due.is("stop(101)", -2);
        due.is("stop(-1)", -2);
        due.law("1", "0", "10");
        due.is("step(0, 1, 1)", 0);
        due.is("step(3, 0, 1)", 1);
        due.is("step(0, 1, 1)", 2);
        due.is("step(3, 0, 1)", 3);
        due.is("stop(100)", 1);
        due.is("stop(91)", 1);
        due.is("stop(90)", 3);
        due.is("stop(82)", 3);
        due.is("stop(81)", 4);
        due.is("stop(0)", 4);
        due.fresh("promise 14, of what is WHOLE and FREE");
        due.law("1", "(thick = 300) * 10", "10");
        due.is("roll(2, 0, 30000)", 60000);
        due.is("step(1, 0, 1)", 0);
        due.is("step(3, 0, 1)", 1);
        due.is("stop(91)", 0);
        due.is("stop(90)", 1);
        due.is("stop(81)", 2);
        due.is("stop(82)", 1);
    }

    private static void worst() {
        due.fresh("promise 15");
        due.is("worst()", -1);
        due.is("step(0, 1, 1)", 0);
        due.is("worst()", -1);
        due.law("1", "0", "(folds = 3) * 2 + 10");
        due.is("step(3, 0, 1)", 1);
        due.is("step(3, 0, 1)", 2);
        due.is("worst()", 1);
        due.is("step(3, 0, 1)", 3);
        // 100000000, 90000000, then 12 of 100 of 810000000
        due.is("worst()", 1);
        due.law("1", "0", "10 + folds");
        // 11 of 100, 12 of 89, 13 of 78.32: the second loses less than the first
        due.is("worst()", 1);
        due.law("1", "0", "folds * 10");
        // 10, 18, 21.6
        due.is("worst()", 3);
        due.fresh("promise 15, of like ones the first");
        due.law("1", "0", "50 * (folds = 1) + 100 * (folds = 2)");
        due.is("step(3, 0, 1)", 0);
        due.is("step(5, 0, 1)", 1);
        due.is("worst()", 0);
        due.fresh("promise 15, by tears");
        due.law("1", "1", "11");
        due.is("step(3, 0, 1)", 0);
        due.is("step(1, 0, 1)", 1);
        // 11 of 100; then of 89 some 11.36 of 100
        due.is("worst()", 0);
        due.is("forget()", 1);
        due.is("forget()", 0);
        due.is("step(1, 0, 1)", 0);
        due.is("step(3, 0, 1)", 1);
        due.is("worst()", 0);
    }
}
