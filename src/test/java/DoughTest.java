/** Promises 1 to 10: the dough, the law, steps; and what a text may say. */
public final class DoughTest {
    private static final Due due = new Due("DoughTest");
    private static final String FIRST =
        "draw 20 + wet * 2 - stiff ; tears 40 < pace * 9 - thick ; sticks folds * 2 - dust ; ";

    private DoughTest() {
    }

    public static void main(String[] args) {
        newObject();
        roll();
        set();
        count();
        feed();
        text();
        grammar();
        faults();
        open();
        values();
        force();
        step();
        forget();
        stepTold();
        due.end();
    }

    private static void newObject() {
        due.fresh("promise 1");
        due.is("count(3)", 0);
        for (int c = 0; c < 12; c++) {
            due.is("rope(0, " + c + ", 0)", 600);
            due.is("rope(0, " + c + ", 1)", 100);
            due.is("rope(0, " + c + ", 2)", 0);
            due.is("taken(" + c + ", 6)", 60000);
        }
        due.is("rope(1, 0, 0)", -5);
        due.is("cell(0, 0, 0)", -11);
        due.is("cell(3, 0, 0)", -11);
        due.is("back()", -3);
        due.same("NONE", PulledToAHair.NONE, -1);
        due.same("BAD", PulledToAHair.BAD, -2);
        due.same("STATE", PulledToAHair.STATE, -3);
        due.same("FULL", PulledToAHair.FULL, -4);
        due.same("NO", PulledToAHair.NO, -(1L << 62));
    }

    private static void roll() {
        due.fresh("promise 2");
        due.is("roll(0, 0, 1)", 60000);
        due.is("roll(0, 0, 99999)", 1);
        due.is("rope(0, 0, 0)", 999);
        due.is("roll(11, 1, 999)", 100);
        due.is("rope(0, 11, 0)", 60);
        due.is("rope(0, 11, 1)", 999);
        due.is("roll(11, 1, 1)", 999);
        due.is("rope(0, 11, 0)", 60000);
        due.is("roll(-1, 0, 5)", -5);
        due.is("roll(12, 0, 5)", -5);
        due.is("roll(12, 9, 0)", -5);
        due.is("roll(1, 2, 5)", -7);
        due.is("roll(1, -1, 5)", -7);
        due.is("roll(1, 0, 0)", -7);
        due.is("roll(1, 0, 100000)", -7);
        due.is("roll(1, 1, 0)", -7);
        due.is("roll(1, 1, 1000)", -7);
        due.is("rope(0, 1, 0)", 600);
        due.is("rope(0, 1, 1)", 100);
    }

    private static void set() {
        due.fresh("promise 3");
        due.is("set(0, 9)", 5);
        due.is("set(1, 0)", 2);
        due.is("set(2, 7)", 5);
        due.is("set(0, 0)", 9);
        due.is("set(1, 1)", 0);
        due.is("set(2, 8)", 7);
        due.is("set(-1, 1)", -1);
        due.is("set(3, 1)", -1);
        due.is("set(3, 10)", -1);
        due.is("set(0, 10)", -2);
        due.is("set(0, -1)", -2);
        due.is("count(0)", 0);
        due.is("count(1)", 1);
        due.is("count(2)", 8);
    }

    private static void count() {
        due.fresh("promise 4");
        int[] first = {5, 2, 5, 0, 1, 0, 0};
        for (int what = 0; what < first.length; what++) {
            due.is("count(" + what + ")", first[what]);
        }
        due.is("step(1, 1, 1)", 0);
        due.text(FIRST, 1);
        due.is("force(1)", 0);
        due.tape("draw");
        due.is("count(3)", 1);
        due.is("count(4)", 2);
        due.is("count(5)", 1);
        due.is("count(6)", 4);
        due.is("count(7)", -2);
        due.is("count(-1)", -2);
    }

    private static void feed() {
        due.fresh("promise 5");
        due.is("feed(0, 0)", -2);
        due.is("feed(0, -1)", -2);
        due.is("feed(0, 9)", -2);
        // "draw 1 ;" at once, "tears 1;" and "sticks 1;" by parts: the highest byte comes first
        due.is("feed(" + 0x64726177_2031203bL + ", 8)", 8);
        due.is("feed(" + 0x74656172_73203120L + ", 8)", 16);
        due.is("feed(" + 0x7eeeee3bL + ", 1)", 17);
        due.is("feed(" + 0x737469636b73L + ", 6)", 23);
        due.is("feed(" + 0x7f20393bL + ", 3)", 26);
        due.is("text()", 1);
        due.is("force(1)", 0);
        due.is("step(3, 0, 1)", 0);
        due.is("whole(1, 1)", 910000000);
        // a byte above 127 begins no token
        due.is("feed(-1, 8)", 8);
        due.is("text()", -100);
        for (int i = 1; i <= 19; i++) {
            due.is("feed(0, 8)", 8 * i);
        }
        due.is("feed(0, 7)", 159);
        due.is("feed(0, 2)", -4);
        due.is("feed(0, 9)", -2);
        due.is("feed(0, 1)", 160);
        due.is("feed(0, 1)", -4);
        due.is("count(6)", 160);
    }

    private static void text() {
        due.fresh("promise 6");
        due.is("text()", -100);
        due.text("draw 1;tears 1;sticks 1;", 1);
        due.is("count(6)", 0);
        due.text("draw 1;tears 1;sticks", -121);
        due.is("count(6)", 0);
        due.is("count(4)", 2);
        for (int t = 2; t <= 5; t++) {
            due.text(FIRST, t);
        }
        due.is("feed(120, 1)", 1);
        due.is("text()", -4);
        due.is("count(6)", 1);
        due.is("count(4)", 6);
        due.is("feed(120, 1)", 2);
    }

    private static void grammar() {
        due.fresh("a text");
        due.text("draw 1+2*3-wet;tears not thick<stiff and pace=folds or dust;sticks(1);", 1);
        due.text("\n draw\n1 ;tears 1;sticks 1\n;\n ", 2);
        due.text("draw 2 - -3 ; tears - wet * - 2 ; sticks not not 1 ;", 3);
        due.text("draw 9999 ; tears 0000 ; sticks (not 1) + (1 or 0) ;", 4);
        due.text("draw(1)=(2);tears 1*2*3-4-5;sticks 1 and 2 and 3 or 4 or not 5;", 5);
    }

    private static void fault(String draw, int place) {
        due.text("draw " + draw + " ; tears 0 ; sticks 0 ;", -100 - 5 - place);
    }

    private static void faults() {
        due.fresh("a fault");
        fault("", 1);
        fault("10000", 0);
        fault("1 + 00001", 4);
        fault("1 2", 2);
        fault("5wet", 1);
        fault("wets", 0);
        for (String word : new String[] {"pet", "wat", "wer", "xhick", "thicc", "stifx", "xtiff", "pade", "xace",
            "xolds", "foldx", "xust", "duss", "thi", "t", "thickthick"}) {
            fault(word, 0);
            fault("1 + " + word, 4);
        }
        fault("1 xr 2", 2);
        fault("1 ox 2", 2);
        fault("1 xnd 2", 2);
        fault("1 anx 2", 2);
        fault("xot 1", 0);
        fault("nox 1", 0);
        due.text("xraw 0 ; tears 0 ; sticks 0 ;", -100);
        due.text("drax 0 ; tears 0 ; sticks 0 ;", -100);
        due.text("draw 0 ; xears 0 ; sticks 0 ;", -109);
        due.text("draw 0 ; tearx 0 ; sticks 0 ;", -109);
        due.text("draw 0 ; tears 0 ; xticks 0 ;", -119);
        due.text("draw 0 ; tears 0 ; stickx 0 ;", -119);
        due.text("draw 0 ; tears 0 ; stickss 0 ;", -119);
        fault("1 + we", 4);
        fault("Wet", 0);
        fault("1 /", 2);
        fault("1 +\t2", 3);
        fault("1 + ;", 4);
        fault("1 + not 2", 4);
        fault("1 < not 2", 4);
        fault("1 < 2 < 3", 6);
        fault("1 = 2 = 3", 6);
        fault("( 1", 4);
        fault("1 )", 2);
        fault("()", 1);
        fault("1 * * 2", 4);
        fault("+ 1", 0);
        fault("1 + + 2", 4);
        fault("1 or or 2", 5);
        fault("and 1", 0);
        fault("1 not", 2);
        fault("draw", 0);
        fault("not or", 4);
        // the first one of several
        fault("; foo", 0);
        fault("foo $", 0);
        due.text("tears 0 ; draw 0 ; sticks 0 ;", -100);
        due.text("draw 0 ; sticks 0 ; tears 0 ;", -109);
        due.text("draw 0 ; tears 0 ; sticks 0", -127);
        due.text("draw 0 ; tears 0 ; sticks 0  ", -129);
        due.text("draw 0 ; tears 0 ; sticks 0 ; ;", -130);
        due.text("draw 0 ; tears 0 ; sticks 0 ; draw", -130);
        due.text("draw 0 ; tears 0 ; sticks 0 ;\u00e9", -129);
        due.text("drawn 0 ; tears 0 ; sticks 0 ;", -100);
        due.text("draw0 ; tears0 ; sticks0 ;", 1);
        due.text("   ", -103);
        due.text("dr", -100);
        due.text("draw 1 ; tears", -114);
    }

    private static void open() {
        due.fresh("what is open");
        due.text("draw(((((1)))));tears 1;sticks 1;", 1);
        fault("((((((1))))))", 5);
        fault("not not not not not not 1", 20);
        fault("- - - - - - 1", 10);
        fault("not ( - ( - ( 1 ) ) )", 12);
        due.text("draw not(-(-1))+(1)*(2);tears(1)*(1)*(1)*(1)*(1)*(1)*(1);sticks not not not not not 1;", 2);
        // a not ends with what it belongs to, a minus with its ONE
        due.text("draw not 1 and not 1 and not 1 and not 1 and not 1 and not 1 and not 1;tears 1;sticks 1;", 3);
        due.text("draw -1-1 - -1 - -1 - -1 - -1 - -1 - -1;tears 1;sticks 1;", 4);
        due.text("draw - - - - -1*(1)+((((1))));tears 1;sticks 1;", 5);
        due.fresh("what is open, further");
        fault("not ( not ( not 1 = - 1 ) )", 20);
        fault("- - - - ( ( 1 ) )", 10);
        due.text("draw not(not(not 1=1));tears 1;sticks 1;", 1);
        due.text("draw 1 - 1 - 1 - 1 - 1 - 1 - 1 - (1);tears 1;sticks 1;", 2);
    }

    /** A value, told by how many of 100 parts are lost when a FOLD sticks by it. */
    private static void value(String e, int percent) {
        due.fresh("the value of " + e);
        due.law("1", "0", e);
        due.is("step(3, 0, 1)", 0);
        due.is("whole(1, 1)", 1000000000L - 10000000L * percent);
    }

    private static void values() {
        value("1 + 2 * 3", 7);
        value("(1 + 2) * 3", 9);
        value("10 - 3 - 2", 5);
        value("- 2 + 5", 3);
        value("-2*-3", 6);
        value("7 or 0", 1);
        value("0 or 0", 0);
        value("7 and 5", 1);
        value("7 and 0", 0);
        value("0 and 7", 0);
        value("0 or 7", 1);
        value("not 7", 0);
        value("not 0", 1);
        value("not not 7", 1);
        value("not 1 - 1", 1);
        value("not 1 = 2", 1);
        value("2 < 3", 1);
        value("3 < 3", 0);
        value("3 = 3", 1);
        value("3 = 4", 0);
        value("- 1 < 0", 1);
        value("1 + 1 < 1 + 2", 1);
        value("1 or 1 and 0", 1);
        value("0 and 0 or 1", 1);
        value("(0 or 1) * 40 + 2", 42);
        value("8 - 3 + 1", 6);
        value("100", 100);
        value("101", 100);
        value("0 - 1", 0);
        // 32 bits, wrapping
        value("2048 * 2048 * 512 < 0", 1);
        value("2048 * 2048 * 1024 = 0", 1);
        value("- (2048 * 2048 * 512) < 0", 1);
        value("wet", 5);
        value("thick = 600", 1);
        value("stiff", 0);
        value("pace", 0);
        value("folds", 1);
        value("dust", 0);
    }

    private static void force() {
        due.fresh("promise 7");
        due.is("force(1)", -2);
        due.is("force(-1)", -2);
        due.text(FIRST, 1);
        due.text("draw 1 ; tears 1 ; sticks 7 ;", 2);
        due.is("force(2)", 0);
        due.is("step(3, 0, 1)", 0);
        due.is("whole(1, 1)", 930000000);
        due.is("force(3)", -2);
        due.is("force(1)", 2);
        due.is("whole(1, 1)", 980000000);
        due.is("count(5)", 1);
        due.is("force(0)", 1);
        due.is("count(5)", 0);
    }

    private static void step() {
        due.fresh("promise 8");
        due.is("step(-1, 0, 1)", -2);
        due.is("step(6, 0, 1)", -2);
        due.is("step(0, -1, 1)", -2);
        due.is("step(0, 10, 1)", -2);
        due.is("step(0, 0, 0)", -2);
        due.is("step(0, 0, 10)", -2);
        for (int s = 0; s < 12; s++) {
            due.is("step(" + s % 6 + ", " + s % 10 + ", " + (s % 9 + 1) + ")", s);
        }
        due.is("step(0, 0, 1)", -4);
        due.is("step(0, 0, 0)", -2);
        due.is("count(3)", 12);
    }

    private static void forget() {
        due.fresh("promise 9");
        due.is("forget()", -3);
        due.is("step(1, 9, 1)", 0);
        due.is("step(3, 9, 1)", 1);
        due.is("forget()", 1);
        due.is("stepTold(1, 0)", -5);
        due.is("stepTold(0, 0)", 1);
        due.is("rope(2, 0, 0)", -5);
        due.is("step(4, 2, 1)", 1);
        due.is("forget()", 1);
        due.is("forget()", 0);
        due.is("forget()", -3);
        due.is("rope(0, 0, 0)", 600);
    }

    private static void stepTold() {
        due.fresh("promise 10");
        int[] takes = {70, 10 - 4, 12 - 4, 3, 8, 10};
        for (int kind = 0; kind < 6; kind++) {
            due.is("step(" + kind + ", 7, 4)", kind);
        }
        for (int kind = 0; kind < 6; kind++) {
            due.is("stepTold(" + kind + ", 0)", kind);
            due.is("stepTold(" + kind + ", 1)", 7);
            due.is("stepTold(" + kind + ", 2)", 4);
            due.is("stepTold(" + kind + ", 3)", takes[kind]);
        }
        due.is("stepTold(6, 0)", -5);
        due.is("stepTold(-1, 9)", -5);
        due.is("stepTold(0, 4)", -7);
        due.is("stepTold(0, -1)", -7);
    }
}
