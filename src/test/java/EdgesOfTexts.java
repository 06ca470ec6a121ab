/** Edges that A TEXT, FAULT and TEXTS name. */
final class EdgesOfTexts {
    private static final String REST = " ; tears 0 ; sticks 0 ;";
    private static final String WORDS = "WORDS (as many letters a .. z as stand there)";
    private static final String NUMBERS = "NUMBERS (as many digits as stand there; more than 4 are too long)";
    private static final String BLANKS = "blanks (32, 10) may stand between";
    private static final String WHOLE_TEXT = "TEXT: draw E ; tears E ; sticks E ;";
    private static final String NOT = "NOT: not NOT, or SUM, perhaps < or = and a SUM.";
    private static final String ONE = "ONE: a NUMBER, a NAME, - ONE, ( E ).";
    private static final String INT = "An E is an int (32 bits, wrapping)";
    private static final String TRUE = "of or, and, not, <, = 1 or 0 (what is not 0 is true)";
    private static final String FIRST_TOKEN = "the place of the first byte of the first TOKEN that can't stand there";
    private static final String TOO_EARLY = "(the text's size, if it ends too early)";
    private static final String NEITHER = "of a WORD that is neither KEY nor NAME";
    private static final String OPEN = "a ( , a not, a - ahead of a ONE while 5 of these are open";
    private static final String TILL = "(a ( till its ) , not and - till what they belong to ends)";

    private EdgesOfTexts() {
    }

    /** An E, as draw of a text: it is fine. */
    private static void fine(Due due, String e) {
        due.again();
        due.text("draw " + e + REST, 1);
    }

    /** An E, as draw of a text: its fault is at this place of the E. */
    private static void fault(Due due, String e, int place) {
        due.again();
        due.text("draw " + e + REST, -105 - place);
    }

    /** The value of an E, 0 .. 100, told by how much is lost when it sticks by that. */
    private static void value(Due due, String e, int value) {
        due.again();
        due.law("1", "0", e);
        due.steps("3, 0, 1");
        due.same(e, due.ask("whole(1, 1)"), 1000000000L - 10000000L * value);
    }

    private static String blanks(int n) {
        return " ".repeat(n);
    }

    // ---- A TEXT

    @Edge(of = "A TEXT", says = "A TEXT is read from THE TAPE (160 bytes at most)")
    static void aTextOf160Bytes(Due due) {
        String text = "draw 1 ; tears 0 ; sticks" + blanks(160 - 27) + "7;";
        due.text(text, 1);
        due.is("force(1)", 0);
        due.steps("3, 0, 1");
        due.is("whole(1, 1)", 930000000);
    }

    @Edge(of = "A TEXT", says = "A TEXT is read from THE TAPE (160 bytes at most)")
    static void a161stByte(Due due) {
        due.tape(blanks(160));
        due.is("count(6)", 160);
        due.is("feed(32, 1)", -4);
        due.is("count(6)", 160);
    }

    @Edge(of = "A TEXT", says = "TOKENS, each as long as can be")
    static void tokensAsLongAsCanBe(Due due) {
        fine(due, "wet");
        fault(due, "wett", 0);
        fault(due, "wetwet", 0);
        fault(due, "notwet", 0);
        fine(due, "not wet");
        fine(due, "1234");
        fault(due, "12345", 0);
    }

    @Edge(of = "A TEXT", says = WORDS)
    static void lettersEndAtAAndZ(Due due) {
        // a and z are letters; the bytes ahead of a and A, behind z and Z, and capitals are none
        fault(due, "weta", 0);
        fault(due, "wetz", 0);
        fault(due, "wet`", 3);
        fault(due, "wet{", 3);
        fault(due, "wetA", 3);
        fault(due, "wetZ", 3);
        fault(due, "wet@", 3);
        fault(due, "wet[", 3);
    }

    @Edge(of = "A TEXT", says = WORDS)
    static void aWordEndsAtAnythingElse(Due due) {
        fault(due, "wet1", 3);
        fine(due, "wet+wet");
        fine(due, "wet\nand(wet)or not(wet)");
        due.again();
        due.text("draw1;tears1;sticks1;", 1);
    }

    @Edge(of = "A TEXT", says = NUMBERS)
    static void fourDigits(Due due) {
        value(due, "9999 - 9900", 99);
        value(due, "0007", 7);
        value(due, "0", 0);
        value(due, "0000", 0);
    }

    @Edge(of = "A TEXT", says = NUMBERS)
    static void fiveDigits(Due due) {
        fault(due, "10000", 0);
        fault(due, "00001", 0);
        fault(due, "1 + 00000", 4);
        fault(due, "123456789012345678901234567890", 0);
    }

    @Edge(of = "A TEXT", says = NUMBERS)
    static void digitsEndAt0And9(Due due) {
        fault(due, "1/", 1);
        fault(due, "1:", 1);
        fine(due, "0+9");
    }

    @Edge(of = "A TEXT", says = "SIGNS ( ) ; + - * < =")
    static void everyByteBetweenTwoNumbers(Due due) {
        for (int b = 0; b <= 255; b++) {
            String e = "1 " + (char) b + " 1";
            if (b == ' ' || b == '\n') {
                fault(due, e, 4);
            } else if ("+-*<=".indexOf(b) >= 0) {
                fine(due, e);
            } else if (b == ';') {
                fault(due, e, 4);
            } else {
                fault(due, e, 2);
            }
        }
    }

    @Edge(of = "A TEXT", says = BLANKS)
    static void noBlanks(Due due) {
        due.text("draw1;tears0;sticks(7);", 1);
        due.is("force(1)", 0);
        due.steps("3, 0, 1");
        due.is("whole(1, 1)", 930000000);
    }

    @Edge(of = "A TEXT", says = BLANKS)
    static void blanksAheadAndBehind(Due due) {
        due.text(" \n draw\n\n1 ;tears 0\n;sticks 0 \n;\n \n", 1);
    }

    @Edge(of = "A TEXT", says = BLANKS)
    static void noOtherBlanks(Due due) {
        for (int b : new int[] {0, 9, 11, 12, 13, 31, 33, 127, 133, 160, 255}) {
            fault(due, "1 + " + (char) b + "1", 4);
        }
    }

    @Edge(of = "A TEXT", says = BLANKS)
    static void blanksWithinATokenPartIt(Due due) {
        fault(due, "1 2", 2);
        fault(due, "w et", 0);
        due.again();
        due.text("dr aw 1" + REST, -100);
    }

    @Edge(of = "A TEXT", says = WHOLE_TEXT)
    static void partsThatAreMissing(Due due) {
        due.text("tears 0 ; sticks 0 ;", -100);
        due.text("draw 1 ; sticks 0 ;", -109);
        due.text("draw 1 ; tears 0 ;", -118);
        due.text("draw ; tears 0 ; sticks 0 ;", -105);
        due.text("draw 1 tears 0 ; sticks 0 ;", -107);
        due.text("draw 1 ; tears 0 ; sticks 0", -127);
        due.text("1 ; tears 0 ; sticks 0 ;", -100);
    }

    @Edge(of = "A TEXT", says = WHOLE_TEXT)
    static void partsInAnotherOrder(Due due) {
        due.text("tears 0 ; draw 1 ; sticks 0 ;", -100);
        due.text("draw 1 ; sticks 0 ; tears 0 ;", -109);
        due.text("draw 1 ; draw 1 ; sticks 0 ;", -109);
    }

    @Edge(of = "A TEXT", says = WHOLE_TEXT)
    static void somethingBehindTheEnd(Due due) {
        due.text("draw 1 ; tears 0 ; sticks 0 ; ;", -130);
        due.text("draw 1 ; tears 0 ; sticks 0 ; draw 1 ;", -130);
        due.text("draw 1 ; tears 0 ; sticks 0 ;1", -129);
    }

    @Edge(of = "A TEXT", says = "E: AND { or AND }.")
    static void noOrAndManyOrs(Due due) {
        value(due, "5", 5);
        value(due, "5 or 0", 1);
        value(due, "0 or 0 or 0 or 0 or 0 or 0 or 0 or 0 or 9", 1);
        value(due, "1 or 0 and 0", 1);
        fault(due, "or 1", 0);
        fault(due, "1 or", 5);
        fault(due, "1 or or 1", 5);
    }

    @Edge(of = "A TEXT", says = "AND: NOT { and NOT }.")
    static void noAndAndManyAnds(Due due) {
        value(due, "5 and 5", 1);
        value(due, "1 and 1 and 1 and 1 and 1 and 1 and 1 and 0", 0);
        value(due, "1 and not 0", 1);
        value(due, "not 0 and 0", 0);
        fault(due, "and 1", 0);
        fault(due, "1 and", 6);
        fault(due, "1 and and 1", 6);
    }

    @Edge(of = "A TEXT", says = NOT)
    static void notOfAllThatIsCompared(Due due) {
        value(due, "not 2 < 1", 1);
        value(due, "not not 7", 1);
        value(due, "not 1 + 1", 0);
        fault(due, "1 + not 1", 4);
        fault(due, "1 < not 1", 4);
        fault(due, "1 not", 2);
        fault(due, "not", 4);
    }

    @Edge(of = "A TEXT", says = NOT)
    static void comparedOnceOrNever(Due due) {
        value(due, "3", 3);
        value(due, "1 < 2", 1);
        fault(due, "1 < 2 < 3", 6);
        fault(due, "1 = 1 = 1", 6);
        fault(due, "1 < 2 = 1", 6);
        value(due, "(0 < 5) < 3", 1);
        fault(due, "1 <", 4);
        fault(due, "= 1", 0);
    }

    @Edge(of = "A TEXT", says = "SUM: TERM { + or - TERM }.")
    static void sumsFromTheLeft(Due due) {
        value(due, "9", 9);
        value(due, "9 - 3 - 2", 4);
        value(due, "9 - 3 + 2", 8);
        value(due, "1+1+1+1+1+1+1+1+1+1+1+1", 12);
        fault(due, "1 +", 4);
        fault(due, "+ 1", 0);
        fault(due, "1 + + 1", 4);
    }

    @Edge(of = "A TEXT", says = "TERM: ONE { * ONE }.")
    static void productsAheadOfSums(Due due) {
        value(due, "2 * 3", 6);
        value(due, "2 + 3 * 4", 14);
        value(due, "20 - 2 * 3 * 3", 2);
        fault(due, "1 *", 4);
        fault(due, "* 1", 0);
        fault(due, "1 * * 1", 4);
    }

    @Edge(of = "A TEXT", says = ONE)
    static void theMinusOfAOne(Due due) {
        value(due, "- 2 + 5", 3);
        value(due, "- 2 * - 3", 6);
        value(due, "- - 4", 4);
        value(due, "9 - - 4", 13);
        value(due, "- (2 - 9)", 7);
        fault(due, "-", 2);
        fault(due, "- not 1", 2);
        fault(due, "1 - * 1", 4);
    }

    @Edge(of = "A TEXT", says = ONE)
    static void parentheses(Due due) {
        value(due, "(7)", 7);
        value(due, "(1 + 2) * 3", 9);
        value(due, "(0 or 7) + (not 0)", 2);
        fault(due, "()", 1);
        fault(due, "(1", 3);
        fault(due, "1)", 1);
        fault(due, "(1))", 3);
        fault(due, "(1;)", 2);
    }

    @Edge(of = "A TEXT", says = ONE)
    static void asDeepAsCanBe(Due due) {
        // at each of six levels the left sides of or, and, <, + and * wait
        String level = "0or 1and 1<1+1*";
        value(due, (level + "(").repeat(5) + level + "7" + ")".repeat(5), 1);
        value(due, (level + "(").repeat(5) + level + "0" + ")".repeat(5), 0);
    }

    @Edge(of = "A TEXT", says = "NAMES: wet thick stiff pace folds dust.")
    static void theSixNames(Due due) {
        fine(due, "wet + thick + stiff + pace + folds + dust");
        fault(due, "warm", 0);
        fault(due, "salt", 0);
        fault(due, "fold", 0);
        fault(due, "dusts", 0);
        fault(due, "Wet", 0);
    }

    @Edge(of = "A TEXT", says = INT)
    static void aSumThatWraps(Due due) {
        // 2147483647 and one more
        value(due, "(2048 * 2048 * 511 + (2048 * 2048 - 1) + 1) < 0", 1);
        value(due, "(2048 * 2048 * 511 + (2048 * 2048 - 1)) < 0", 0);
    }

    @Edge(of = "A TEXT", says = INT)
    static void aDifferenceThatWraps(Due due) {
        value(due, "0 < 0 - 2048 * 2048 * 512 - 1", 1);
        value(due, "0 - 2048 * 2048 * 512 < 0", 1);
    }

    @Edge(of = "A TEXT", says = INT)
    static void aProductThatWraps(Due due) {
        value(due, "2048 * 2048 * 512 < 0", 1);
        value(due, "2048 * 2048 * 1024", 0);
        value(due, "2048 * 2048 * 1024 * 3 + 5", 5);
        // 999700029999 wraps to -1027349969
        value(due, "9999 * 9999 * 9999 + 1027 * 1000 * 1000 + 349 * 1000 + 969 = 0", 1);
    }

    @Edge(of = "A TEXT", says = INT)
    static void theLeastIntNegated(Due due) {
        value(due, "- (2048 * 2048 * 512) < 0", 1);
        value(due, "- (2048 * 2048 * 512) = 2048 * 2048 * 512", 1);
    }

    @Edge(of = "A TEXT", says = INT)
    static void intsAreComparedAsTheyAre(Due due) {
        // their difference would wrap
        value(due, "2048 * 2048 * 512 < 1", 1);
        value(due, "1 < 2048 * 2048 * 512", 0);
    }

    @Edge(of = "A TEXT", says = TRUE)
    static void whatIsNot0IsTrue(Due due) {
        value(due, "0 - 1 or 0", 1);
        value(due, "0 or 0 - 5", 1);
        value(due, "0 - 1 and 7", 1);
        value(due, "7 and 0", 0);
        value(due, "not 7", 0);
        value(due, "not (0 - 1)", 0);
        value(due, "not 0", 1);
        value(due, "0 or 0", 0);
    }

    @Edge(of = "A TEXT", says = TRUE)
    static void lessAndLike(Due due) {
        value(due, "2 < 3", 1);
        value(due, "3 < 3", 0);
        value(due, "4 < 3", 0);
        value(due, "3 = 3", 1);
        value(due, "3 = 4", 0);
        value(due, "(0 - 1) < 0", 1);
    }

    // ---- FAULT

    @Edge(of = "FAULT", says = FIRST_TOKEN)
    static void theFirstByteOfAll(Due due) {
        due.text("; draw 1" + REST, -100);
        due.text("sticks", -100);
        due.text("  ;", -102);
    }

    @Edge(of = "FAULT", says = FIRST_TOKEN)
    static void theFirstOfSeveral(Due due) {
        fault(due, "1 1 10000", 2);
        fault(due, "10000 1 1", 0);
        fault(due, "1 + ) foo", 4);
        fault(due, "foo )", 0);
        fault(due, "1 $ foo", 2);
    }

    @Edge(of = "FAULT", says = FIRST_TOKEN)
    static void theLastByteOf160(Due due) {
        due.text("draw 1 ; tears 0 ; sticks 7;" + blanks(160 - 29) + "1", -259);
    }

    @Edge(of = "FAULT", says = TOO_EARLY)
    static void anEmptyTape(Due due) {
        due.is("text()", -100);
        due.is("count(4)", 1);
    }

    @Edge(of = "FAULT", says = TOO_EARLY)
    static void blanksAlone(Due due) {
        due.text(" ", -101);
        due.text(" \n ", -103);
        due.text(blanks(160), -260);
    }

    @Edge(of = "FAULT", says = TOO_EARLY)
    static void itEndsTooEarly(Due due) {
        due.text("draw", -104);
        due.text("draw 1", -106);
        due.text("draw 1 ;", -108);
        due.text("draw 1 ; tears 0 ; sticks 0", -127);
        due.text("draw 1 ; tears 0 ; sticks 0   ", -130);
        due.text("draw (1", -107);
        due.text("draw not", -108);
        due.text("draw -", -106);
    }

    @Edge(of = "FAULT", says = TOO_EARLY)
    static void itEndsTooEarlyBehind160(Due due) {
        due.text("draw 1 ; tears 0 ; sticks" + blanks(160 - 26) + "7", -260);
    }

    @Edge(of = "FAULT", says = "also of a byte that begins none")
    static void aByteThatBeginsNone(Due due) {
        for (int b : new int[] {0, 9, 13, '!', '%', ',', '.', '/', ':', '>', '?', '[', '_', '{', 127, 128, 233, 255}) {
            fault(due, "1 " + (char) b, 2);
        }
        due.again();
        due.text("\u00ff", -100);
        due.text("draw 1 ; tears 0 ; sticks 0 ;\u0000", -129);
    }

    @Edge(of = "FAULT", says = NEITHER)
    static void aWordThatIsNeither(Due due) {
        fault(due, "1 + foo", 4);
        fault(due, "we", 0);
        fault(due, "wets", 0);
        fault(due, "ors", 0);
        fault(due, "1 andd 1", 2);
        due.again();
        due.text("draws 1" + REST, -100);
        due.text("draw 1 ; tear 0 ; sticks 0 ;", -109);
        due.text("draw 1 ; tears 0 ; stick 0 ;", -119);
    }

    @Edge(of = "FAULT", says = NEITHER)
    static void aKeyWhereNoneCanStand(Due due) {
        fault(due, "draw", 0);
        fault(due, "1 + tears", 4);
        fault(due, "sticks", 0);
        fault(due, "1 draw", 2);
    }

    @Edge(of = "FAULT", says = NEITHER)
    static void aLongWord(Due due) {
        fault(due, "abcdefghijklmnopqrstuvwxyzabcdefghijklmnopqrstuvwxyz", 0);
        due.again();
        due.text("a".repeat(160), -100);
    }

    @Edge(of = "FAULT", says = "a NUMBER that is too long")
    static void aNumberThatIsTooLong(Due due) {
        fault(due, "9999 + 99999", 7);
        due.again();
        due.text("draw " + "1".repeat(155), -105);
    }

    @Edge(of = "FAULT", says = OPEN)
    static void fiveParenthesesAndSix(Due due) {
        fine(due, "(((((1)))))");
        fault(due, "((((((1))))))", 5);
        fault(due, "1 + ((((((1))))))", 9);
    }

    @Edge(of = "FAULT", says = OPEN)
    static void fiveNotsAndSix(Due due) {
        value(due, "not not not not not 0", 1);
        fault(due, "not not not not not not 0", 20);
    }

    @Edge(of = "FAULT", says = OPEN)
    static void fiveMinusesAndSix(Due due) {
        value(due, "9 + - - - - - 2", 7);
        fault(due, "- - - - - - 1", 10);
    }

    @Edge(of = "FAULT", says = OPEN)
    static void fiveOfAllKindsAndSix(Due due) {
        fine(due, "not(-(-1))");
        fault(due, "not ( - ( - ( 1 ) ) )", 12);
        fault(due, "( ( ( ( ( not 1 ) ) ) ) )", 10);
        fault(due, "( ( ( ( ( - 1 ) ) ) ) )", 10);
        fault(due, "- - - - - ( 1 )", 10);
        fault(due, "not not not not not - 1", 20);
    }

    @Edge(of = "FAULT", says = OPEN)
    static void aMinusBetweenTermsIsNone(Due due) {
        value(due, "(((((9 - 2)))))", 7);
        fault(due, "(((((9 - - 2)))))", 9);
    }

    @Edge(of = "FAULT", says = TILL)
    static void aParenthesisEnds(Due due) {
        value(due, "(1)+(1)+(1)+(1)+(1)+(1)+(1)", 7);
        fine(due, "((((1)+(1))))+(((((1)))))");
        fault(due, "((((1)+((1)))))+((((((1))))))", 21);
    }

    @Edge(of = "FAULT", says = TILL)
    static void aMinusEndsWithItsOne(Due due) {
        value(due, "9 + -1 + -1 + -1 + -1 + -1 + -1", 3);
        value(due, "- - - - - 1 + (((((8)))))", 7);
        value(due, "- 1 * - 1 * - 1 * - 1 * - 1 * - 7", 7);
        fine(due, "-((((1))))*(((((1)))))");
        fault(due, "-(((((1)))))", 5);
    }

    @Edge(of = "FAULT", says = TILL)
    static void aNotEndsWithItsNot(Due due) {
        value(due, "not 0 and not 0 and not 0 and not 0 and not 0 and not 0", 1);
        // it belongs to all that is compared: a minus, a parenthesis there are within it
        fault(due, "not not not not not 1 < - 1", 24);
        fault(due, "not not not not not 1 + (1)", 24);
        fine(due, "not not not not 1 < - 1");
        fine(due, "not not not not not 1 and (((((1)))))");
        fine(due, "not not not not not 1 or - 1");
    }

    // ---- TEXTS

    @Edge(of = "TEXTS", says = "TEXTS are numbered from 0 on, 6 at most")
    static void sixTexts(Due due) {
        due.is("force(0)", 0);
        due.is("force(1)", -2);
        for (int t = 1; t <= 5; t++) {
            due.text("draw " + t + REST, t);
            due.is("force(" + t + ")", t - 1);
        }
        due.text("draw 6" + REST, -4);
        due.is("count(4)", 6);
        due.is("force(6)", -2);
    }

    @Edge(of = "TEXTS", says = "TEXT 0, at first, and THE LAW:")
    static void textZero(Due due) {
        due.is("count(4)", 1);
        due.is("count(5)", 0);
        due.is("count(6)", 0);
    }

    /** CELL 0 is STIFF by 40, the others by 22; then half of all LENGTH, 1064, is drawn. */
    private static void drawnWhenWet(Due due, int wet, int... lengths) {
        due.ask("set(0, " + wet + ")");
        due.is("roll(0, 1, 20)", 100);
        due.steps("1, 9, 5", "1, 5, 1");
        due.row(1, 2, 40, 22, 22, 22, 22, 22, 22, 22, 22, 22, 22, 22);
        due.row(1, 1, 104, 184, 184, 184, 184, 184, 184, 184, 184, 184, 184, 184);
        due.row(2, 1, lengths[0], lengths[1]);
        due.is("rope(2, 11, 1)", lengths[2]);
    }

    @Edge(of = "TEXTS", says = "draw 20 + wet * 2 - stiff ;")
    static void drawWhenDry(Due due) {
        // 20 less 40, 20 less 22: 1 each; 88 each, 8 are left over
        drawnWhenWet(due, 0, 193, 273, 272);
    }

    @Edge(of = "TEXTS", says = "draw 20 + wet * 2 - stiff ;")
    static void drawAsItIsAtFirst(Due due) {
        // 1 and 8, 89 in all: 11 and 95, 8 are left over
        drawnWhenWet(due, 5, 116, 280, 279);
    }

    @Edge(of = "TEXTS", says = "draw 20 + wet * 2 - stiff ;")
    static void drawWhenWettest(Due due) {
        // 38 less 40 is 1, 38 less 22 is 16; 177 in all: 6 and 96, 2 are left over
        drawnWhenWet(due, 9, 111, 281, 280);
    }

    /** One CELL is of this THICK, the others of 600. */
    private static void tornWhenThin(Due due, int thick, int pace, long whole) {
        due.again();
        due.is("roll(7, 0, " + 100 * thick + ")", 60000);
        due.steps("1, 0, " + pace);
        due.is("whole(1, 0)", whole);
    }

    @Edge(of = "TEXTS", says = "tears 40 < pace * 9 - thick ;")
    static void tearsWhenThin(Due due) {
        tornWhenThin(due, 41, 9, 1000000000);
        tornWhenThin(due, 40, 9, 990000000);
        tornWhenThin(due, 5, 5, 1000000000);
        tornWhenThin(due, 4, 5, 990000000);
        tornWhenThin(due, 1, 4, 1000000000);
    }

    @Edge(of = "TEXTS", says = "sticks folds * 2 - dust ;")
    static void sticksUnlessDusted(Due due) {
        long[] free = {980000000, 990000000, 1000000000, 1000000000};
        for (int dust = 0; dust <= 3; dust++) {
            due.again();
            due.steps("4, " + dust + ", 1", "3, 0, 1");
            due.is("whole(2, 1)", free[dust]);
        }
    }

    @Edge(of = "TEXTS", says = "Of a CELL as it is then: wet: WET")
    static void theNameWet(Due due) {
        due.law("1", "0", "wet");
        due.steps("3, 0, 1");
        due.is("set(0, 0)", 5);
        due.is("whole(1, 1)", 1000000000);
        due.is("set(0, 9)", 0);
        due.is("whole(1, 1)", 910000000);
    }

    @Edge(of = "TEXTS", says = "thick, stiff: its own")
    static void theNameThick(Due due) {
        due.law("1", "0", "(thick = 4999 * 10 + 9) * 3");
        for (int c = 0; c < 12; c += 11) {
            due.is("roll(" + c + ", 0, 99999)", 60000);
            due.is("roll(" + c + ", 1, 1)", 100);
        }
        due.steps("3, 0, 1");
        // 199998 by 4 is 49999, LENGTH stays 1
        due.is("whole(1, 1)", 970000000);
    }

    @Edge(of = "TEXTS", says = "thick, stiff: its own")
    static void theNameStiff(Due due) {
        due.law("1", "0", "stiff");
        due.steps("3, 0, 1", "1, 9, 9", "1, 9, 9", "1, 9, 9", "3, 0, 1");
        due.is("whole(1, 1)", 1000000000);
        due.is("rope(4, 0, 2)", 99);
        due.is("whole(5, 1)", 10000000);
    }

    @Edge(of = "TEXTS", says = "pace: PACE (0 for sticks)")
    static void theNamePace(Due due) {
        due.law("1", "(thick = 300) * pace", "pace");
        due.is("roll(7, 0, 30000)", 60000);
        due.steps("1, 0, 1", "1, 0, 9", "3, 0, 9", "5, 0, 9");
        due.is("whole(1, 0)", 990000000);
        due.is("whole(2, 0)", 900900000);
        due.is("whole(4, 1)", 1000000000);
    }

    @Edge(of = "TEXTS", says = "folds: FOLDS (of sticks: this one, too)")
    static void theNameFolds(Due due) {
        due.law("1", "(thick = 300) * folds", "folds");
        due.is("roll(5, 0, 30000)", 60000);
        due.is("roll(6, 0, 30000)", 60000);
        due.steps("1, 0, 1", "3, 0, 1", "1, 0, 1", "3, 0, 1");
        due.is("whole(1, 0)", 1000000000);
        due.is("whole(2, 1)", 990000000);
        // CELLS 10 and 11 are those of THICK 300 then
        due.is("whole(3, 0)", 980100000);
        due.is("whole(4, 1)", 970200000);
    }

    @Edge(of = "TEXTS", says = "dust: DUST.")
    static void theNameDust(Due due) {
        due.law("1", "0", "dust");
        due.steps("3, 0, 1");
        for (int s = 0; s < 10; s++) {
            due.steps("4, 9, 1");
        }
        due.steps("3, 0, 1");
        due.is("whole(1, 1)", 1000000000);
        due.is("whole(12, 1)", 100000000);
    }
}
