/** Promises 29 to 39: doublings as a map, exact parts, hands that wander, an image. */
public final class ExactTest {
    private static final Due due = new Due("ExactTest");
    private static final long NO = PulledToAHair.NO;

    private ExactTest() {
    }

    public static void main(String[] args) {
        place();
        apart();
        parted();
        round();
        colours();
        thin();
        odds();
        record();
        drawn();
        image();
        due.end();
    }

    private static void place() {
        due.fresh("promise 29");
        due.is("place(5, 0)", 5);
        due.is("place(5, 1)", 10);
        due.is("place(2047, 1)", 4094);
        due.is("place(2048, 1)", 4095);
        due.is("place(3000, 1)", 2191);
        due.is("place(3000, 2)", 3809);
        due.is("place(3000, 13)", 3000);
        due.is("place(3000, 64)", due.ask("place(3000, 12)"));
        due.is("place(0, 64)", 0);
        due.is("place(-1, 0)", -2);
        due.is("place(4096, 0)", -2);
        due.is("place(1, -1)", -2);
        due.is("place(1, 65)", -2);
    }

    private static void apart() {
        due.fresh("promise 30");
        due.is("apart(7, 3, 0)", 4);
        due.is("apart(3, 7, 1)", 8);
        due.is("apart(2047, 2048, 1)", 1);
        due.is("apart(2047, 2048, 2)", 2);
        due.is("apart(0, 4095, 0)", 4095);
        due.is("apart(0, 4095, 1)", 1);
        due.is("apart(4096, 0, 0)", -2);
        due.is("apart(0, 4096, 0)", -2);
        due.is("apart(-1, 0, 0)", -2);
        due.is("apart(0, -1, 0)", -2);
        due.is("apart(0, 0, 65)", -2);
        due.is("apart(0, 0, -1)", -2);
    }

    private static void parted() {
        due.fresh("promise 31");
        due.is("parted(0, 1, 1)", 0);
        due.is("parted(0, 1, 2)", 1);
        due.is("parted(1, 0, 3)", 2);
        due.is("parted(1, 0, 2048)", 11);
        due.is("parted(1, 0, 2049)", 12);
        due.is("parted(1, 0, 4095)", 12);
        due.is("parted(9, 9, 0)", 0);
        due.is("parted(9, 9, 1)", -1);
        due.is("parted(0, 0, 4096)", -2);
        due.is("parted(0, 0, -1)", -2);
        due.is("parted(4096, 0, 1)", -2);
        due.is("parted(0, 4096, 1)", -2);
        due.is("parted(-1, 0, 1)", -2);
        due.is("parted(0, -1, 1)", -2);
    }

    private static void round() {
        due.fresh("promise 32");
        due.is("round(0)", 1);
        due.is("round(1)", 13);
        due.is("round(4095)", 13);
        due.is("round(-1)", -2);
        due.is("round(4096)", -2);
    }

    private static void colours() {
        due.fresh("promise 33");
        due.is("colours(3, 0, 0)", 0);
        due.is("colours(3, 0, 1)", 1);
        due.is("colours(3, 0, 2)", 0);
        // places 0 and 15 together have 1 of 2, so have 1 and 14: places 0 .. 3
        due.is("colours(3, 1, 1)", 1);
        due.is("colours(3, 1, 2)", 4);
        due.is("colours(32769, 1, 0)", 0);
        due.is("colours(32769, 1, 1)", 2);
        due.is("colours(32769, 1, 2)", 0);
        due.is("colours(32769, 2, 2)", 4);
        // four doublings mix 16 places wholly: each has all the strands
        due.is("colours(7, 4, 0)", 3);
        due.is("colours(7, 4, 1)", 3);
        due.is("colours(7, 4, 2)", 16);
        due.is("colours(7, 10, 0)", 192);
        due.is("colours(65535, 10, 0)", 1024);
        due.is("colours(65535, 10, 2)", 0);
        due.is("colours(-1, 0, 0)", -2);
        due.is("colours(65536, 0, 0)", -2);
        due.is("colours(1, -1, 0)", -2);
        due.is("colours(1, 11, 0)", -2);
        due.is("colours(1, 0, 3)", -2);
        due.is("colours(1, 0, -1)", -2);
    }

    private static void thin() {
        due.fresh("promise 34");
        due.is("thin(600, 3, 0)", 75);
        due.is("thin(600, 3, 1)", 1);
        due.is("thin(600, 4, 0)", 75);
        due.is("thin(600, 4, 1)", 2);
        due.is("thin(999999, 30, 0)", 999999);
        due.is("thin(999999, 30, 1)", 1073741824);
        due.is("thin(524288, 30, 1)", 2048);
        due.is("thin(1, 0, 1)", 1);
        due.is("thin(0, 0, 0)", NO);
        due.is("thin(1000000, 0, 0)", NO);
        due.is("thin(1, -1, 0)", NO);
        due.is("thin(1, 31, 0)", NO);
        due.is("thin(1, 0, 2)", NO);
        due.is("thin(1, 0, -1)", NO);
    }

    private static void odds() {
        due.fresh("promise 35");
        due.is("odds(1, 3, 2, 0)", 4);
        due.is("odds(1, 3, 2, 1)", 9);
        due.is("odds(2, 4, 3, 0)", 1);
        due.is("odds(2, 4, 3, 1)", 8);
        due.is("odds(0, 30, 10, 0)", 1);
        due.is("odds(0, 30, 10, 1)", 1);
        due.is("odds(30, 30, 1, 0)", 0);
        due.is("odds(30, 30, 1, 1)", 1);
        due.is("odds(30, 30, 0, 0)", 1);
        due.is("odds(1, 30, 10, 0)", 420707233300201L);
        due.is("odds(1, 30, 10, 1)", 590490000000000L);
        due.is("odds(0, 0, 0, 0)", NO);
        due.is("odds(0, 31, 0, 0)", NO);
        due.is("odds(-1, 3, 0, 0)", NO);
        due.is("odds(4, 3, 0, 0)", NO);
        due.is("odds(1, 3, -1, 0)", NO);
        due.is("odds(1, 3, 11, 0)", NO);
        due.is("odds(1, 3, 1, 2)", NO);
        due.is("odds(1, 3, 1, -1)", NO);
    }

    private static void record() {
        due.fresh("promise 36");
        // 0.9 six times is 0.531, seven times 0.478
        due.is("record(1, 10, 50)", 6);
        due.is("record(0, 1, 100)", 10);
        due.is("record(1, 1, 1)", 0);
        due.is("record(1, 1, 0)", 10);
        due.is("record(1, 2, 25)", 2);
        due.is("record(1, 2, 26)", 1);
        due.is("record(1, 30, 72)", 9);
        due.is("record(1, 30, 71)", 10);
        due.is("record(1, 30, 100)", 0);
        due.is("record(0, 0, 1)", -2);
        due.is("record(0, 31, 1)", -2);
        due.is("record(3, 2, 1)", -2);
        due.is("record(-1, 2, 1)", -2);
        due.is("record(1, 2, 101)", -2);
        due.is("record(1, 2, -1)", -2);
    }

    private static void byLot(int n, int seed, int... thick) {
        int least = thick[0];
        int most = thick[0];
        for (int c = 0; c < 12; c++) {
            due.is("drawn(" + n + ", " + c + ", " + seed + ", 0)", thick[c]);
            least = Math.min(least, thick[c]);
            most = Math.max(most, thick[c]);
        }
        due.is("drawn(" + n + ", 0, " + seed + ", 1)", most - least);
    }

    private static void drawn() {
        due.fresh("promise 37");
        due.law("10", "0", "0");
        due.is("step(1, 1, 1)", 0);
        due.is("step(0, 1, 1)", 1);
        due.is("step(1, 1, 1)", 2);
        // of SEED 0 the lots are 48271, 182605794, .., modulo 5: 1, 4, 1, 2, 1, 3, 1, 0, 1, 1, 1, 2
        byLot(1, 0, 545, 530, 545, 540, 545, 535, 550, 555, 550, 550, 550, 545);
        byLot(2, 0, 545, 530, 545, 540, 545, 535, 550, 555, 550, 550, 550, 545);
        byLot(3, 0, 495, 476, 491, 483, 487, 480, 495, 512, 504, 512, 512, 500);
        byLot(0, 0, 600, 600, 600, 600, 600, 600, 600, 600, 600, 600, 600, 600);
        due.is("rope(1, 0, 0)", 545);
        due.is("rope(1, 7, 0)", 545);
        due.law("1", "0", "0");
        byLot(1, 99999, 566, 508, 566, 535, 566, 508, 566, 566, 566, 535, 566, 508);
        due.law("99", "0", "0");
        byLot(1, 5, 545, 540, 545, 540, 545, 545, 545, 545, 545, 545, 550, 550);
        due.is("drawn(4, 0, 0, 0)", -5);
        due.is("drawn(-1, 12, 0, 0)", -5);
        due.is("drawn(0, 12, 0, 0)", -7);
        due.is("drawn(0, -1, 0, 1)", -7);
        due.is("drawn(0, 12, 0, 1)", -7);
        due.is("drawn(0, 0, -1, 0)", -7);
        due.is("drawn(0, 0, 100000, 0)", -7);
        due.is("drawn(0, 0, 0, 2)", -7);
        due.is("drawn(0, 0, 0, -1)", -7);
    }

    private static void image() {
        due.fresh("promises 38 and 39");
        due.is("back()", -3);
        due.text("draw 1 ; tears 1 ; sticks 1 ;", 1);
        due.is("roll(3, 0, 777)", 60000);
        due.is("roll(4, 1, 7)", 100);
        due.is("set(0, 1)", 5);
        due.is("set(1, 9)", 2);
        due.is("set(2, 8)", 5);
        due.is("step(1, 2, 3)", 0);
        due.is("image()", 1);
        due.is("roll(3, 0, 1)", 777);
        due.is("roll(4, 1, 1)", 7);
        due.is("roll(5, 1, 1)", 100);
        due.is("set(0, 0)", 1);
        due.is("set(1, 0)", 9);
        due.is("set(2, 0)", 8);
        due.is("force(1)", 0);
        due.is("step(3, 2, 3)", 1);
        due.is("sheet(0, 1, 3)", 1);
        due.tape("dr");
        due.is("back()", 2);
        due.is("roll(3, 0, 5)", 777);
        due.is("roll(4, 1, 5)", 7);
        due.is("roll(5, 1, 5)", 100);
        due.is("set(0, 5)", 1);
        due.is("set(1, 5)", 9);
        due.is("set(2, 5)", 8);
        due.is("count(5)", 0);
        due.is("force(1)", 0);
        // what an image does not keep
        due.is("count(3)", 2);
        due.is("count(4)", 2);
        due.is("count(6)", 2);
        due.is("cell(0, 2, 1)", 1);
        // it can be gone back to once more, and a later one takes its place
        due.is("back()", 2);
        due.is("count(1)", 9);
        due.is("taken(3, 6)", 777);
        due.is("set(1, 4)", 9);
        due.is("forget()", 1);
        due.is("image()", 1);
        due.is("set(1, 3)", 4);
        due.is("back()", 1);
        due.is("count(1)", 4);
    }
}
