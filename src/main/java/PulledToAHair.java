/**
 * A rope of dough in twelve cells, made thinner step by step, and what can be asked of it.
 * What each call answers is told, promise by promise, in ../shared/DOC.md.
 *
 * Every row is made in the constructor and used again: no call makes an object.
 */
public final class PulledToAHair {
    public static final int NONE = -1, BAD = -2, STATE = -3, FULL = -4;
    public static final long NO = -4611686018427387904L;

    private static final int TOO_FEW = -5, NOT_AS_TOLD = -7, FAULTY = -100;
    private static final int NOTHING = -11, OUTSIDE = -12, UNLIKE = -13, BELOW_ZERO = -14;
    private static final int FINE = 0;

    private static final int CELLS = 12, MOST_STEPS = 12, MOST_TEXTS = 6, TAPE = 160;
    private static final int MOST_MUCH = 99999, MOST_LENGTH = 999, LONGEST = 1000000;
    private static final int MOST_DUST = 99, MOST_STIFF = 99;
    private static final long PARTS = 1000000000L;

    private static final int WET = 0, WARM = 2, TASTES = 3;
    private static final int REST = 0, PULL = 1, BOUNCE = 2, FOLD = 3, DUSTING = 4, CUT = 5, KINDS = 6;
    /** Of which kind a kind is one, by its number; a kind of none is a step alone. */
    private static final int[] IS_A = {NONE, REST, PULL, REST, REST, FOLD};

    private static final int SHEETS = 4, SHEET_SIZE = 40, MISSING = -1, BYTES = 0, SHORTS = 1, INTS = 2;
    private static final int PLACES = 4096, MOST_DOUBLINGS = 64, COLOURED = 16;
    private static final int ALL_STEPS = -1, NO_SEED = -1;

    private static final String FIRST_TEXT =
        "draw 20 + wet * 2 - stiff ; tears 40 < pace * 9 - thick ; sticks folds * 2 - dust ; ";

    private final Dough dough = new Dough();
    private final Dough kept = new Dough();
    private final Dough supposed = new Dough();
    private final Step[] steps = new Step[MOST_STEPS];
    private final Text[] texts = new Text[MOST_TEXTS];
    private final Reader reader = new Reader();
    private final Hands hands;
    private final Rope rope;
    private final Rope tried;
    private final Sheet[] sheets = new Sheet[SHEETS];
    private final int[] strands = new int[COLOURED];
    private final int[] doubled = new int[COLOURED];
    private int stepCount = 0;
    private int textCount = 1;
    private boolean imageKept = false;

    public PulledToAHair() {
        for (int s = 0; s < MOST_STEPS; s++) {
            steps[s] = new Step();
        }
        for (int t = 0; t < MOST_TEXTS; t++) {
            texts[t] = new Text();
        }
        for (int s = 0; s < SHEETS; s++) {
            sheets[s] = new Sheet();
        }
        hands = new Hands(texts[0]);
        rope = new Rope(hands);
        tried = new Rope(hands);
        for (int i = 0; i < FIRST_TEXT.length(); i++) {
            reader.add(FIRST_TEXT.charAt(i));
        }
        reader.read(texts[0]);
        reader.empty();
    }

    // ---- the dough, the law, steps

    public int roll(int c, int what, int v) {
        if (!within(c, 0, CELLS - 1)) {
            return TOO_FEW;
        }
        if (!within(what, 0, 1) || !within(v, 1, what == 0 ? MOST_MUCH : MOST_LENGTH)) {
            return NOT_AS_TOLD;
        }
        int[] row = what == 0 ? dough.much : dough.length;
        int was = row[c];
        row[c] = v;
        return was;
    }

    public int set(int what, int v) {
        if (!within(what, 0, TASTES - 1)) {
            return NONE;
        }
        if (!within(v, 0, 9)) {
            return BAD;
        }
        int was = dough.tastes[what];
        dough.tastes[what] = v;
        return was;
    }

    public int count(int what) {
        if (within(what, 0, TASTES - 1)) {
            return dough.tastes[what];
        }
        switch (what) {
            case 3: return stepCount;
            case 4: return textCount;
            case 5: return dough.law;
            case 6: return reader.size;
            default: return BAD;
        }
    }

    public int feed(long w, int n) {
        if (!within(n, 1, 8)) {
            return BAD;
        }
        if (reader.size + n > TAPE) {
            return FULL;
        }
        for (int i = n - 1; i >= 0; i--) {
            reader.add((int) (w >>> (8 * i)) & 255);
        }
        return reader.size;
    }

    public int text() {
        if (!within(textCount, 0, MOST_TEXTS - 1)) {
            return FULL;
        }
        int place = reader.read(texts[textCount]);
        reader.empty();
        if (place != NONE) {
            return FAULTY - place;
        }
        textCount++;
        return textCount - 1;
    }

    public int force(int t) {
        if (!within(t, 0, textCount - 1)) {
            return BAD;
        }
        int was = dough.law;
        dough.law = t;
        return was;
    }

    public int step(int kind, int more, int pace) {
        if (!within(kind, 0, KINDS - 1) || !within(more, 0, 9) || !within(pace, 1, 9)) {
            return BAD;
        }
        if (!within(stepCount, 0, MOST_STEPS - 1)) {
            return FULL;
        }
        steps[stepCount].become(kind, more, pace);
        stepCount++;
        return stepCount - 1;
    }

    public int forget() {
        if (stepCount < 1) {
            return STATE;
        }
        stepCount--;
        return stepCount;
    }

    public int stepTold(int s, int what) {
        if (!isStep(s)) {
            return TOO_FEW;
        }
        switch (what) {
            case 0: return steps[s].kind;
            case 1: return steps[s].more;
            case 2: return steps[s].pace;
            case 3: return steps[s].takes();
            default: return NOT_AS_TOLD;
        }
    }

    // ---- the rope behind n steps

    public int rope(int n, int c, int what) {
        if (!areSteps(n)) {
            return TOO_FEW;
        }
        if (!within(c, 0, CELLS - 1) || !within(what, 0, 2)) {
            return NOT_AS_TOLD;
        }
        make(dough, n, ALL_STEPS, NO_SEED);
        switch (what) {
            case 0: return rope.thick(c);
            case 1: return rope.length[c];
            default: return rope.stiff[c];
        }
    }

    public long state(int n, int what) {
        if (!areSteps(n)) {
            return TOO_FEW;
        }
        if (!within(what, 0, 7)) {
            return NOT_AS_TOLD;
        }
        make(dough, n, ALL_STEPS, NO_SEED);
        switch (what) {
            case 0: return rope.thinnest();
            case 1: return rope.thickest();
            case 2: return rope.spread();
            case 3: return rope.folds;
            case 4: return rope.allLength() << rope.folds;
            case 5: return rope.dusted;
            case 6: return rope.cutOff;
            default: return allTake(n);
        }
    }

    public long whole(int n, int what) {
        if (!areSteps(n) || !within(what, 0, 2)) {
            return NO;
        }
        make(dough, n, ALL_STEPS, NO_SEED);
        switch (what) {
            case 0: return rope.wholeParts;
            case 1: return rope.freeParts;
            default: return rope.goodParts();
        }
    }

    public int stop(int sure) {
        if (!within(sure, 0, 100)) {
            return BAD;
        }
        make(dough, 0, ALL_STEPS, NO_SEED);
        int most = 0;
        for (int s = 0; s < stepCount && s < MOST_STEPS; s++) {
            rope.make(steps[s]);
            if (rope.goodParts() * 100 >= sure * PARTS) {
                most = s + 1;
            }
        }
        return most;
    }

    public int worst() {
        make(dough, 0, ALL_STEPS, NO_SEED);
        int step = NONE;
        long most = 0;
        for (int s = 0; s < stepCount && s < MOST_STEPS; s++) {
            long before = rope.goodParts();
            rope.make(steps[s]);
            long lost = before - rope.goodParts();
            if (lost > most) {
                most = lost;
                step = s;
            }
        }
        return step;
    }

    // ---- how to draw, rest, dust, double

    public int window(int n, int more) {
        if (!areSteps(n)) {
            return TOO_FEW;
        }
        if (!within(more, 0, 9)) {
            return NOT_AS_TOLD;
        }
        make(dough, n, ALL_STEPS, NO_SEED);
        int paces = 0;
        for (int p = 1; p <= 9; p++) {
            tryDrawing(more, p);
            if (tried.isMoreEvenThan(rope)) {
                paces |= 1 << p;
            }
        }
        return paces;
    }

    public int pace(int n, int more, int what) {
        if (!areSteps(n)) {
            return TOO_FEW;
        }
        if (!within(more, 0, 9) || !within(what, 0, 1)) {
            return NOT_AS_TOLD;
        }
        make(dough, n, ALL_STEPS, NO_SEED);
        int best = 1;
        long most = 0;
        for (int p = 1; p <= 9; p++) {
            tryDrawing(more, p);
            long worth = what == 0 ? tried.wholeParts : -tried.spread();
            if (p == 1 || worth > most) {
                most = worth;
                best = p;
            }
        }
        return best;
    }

    public int rest(int n, int how, int sure) {
        if (!areSteps(n)) {
            return TOO_FEW;
        }
        if (!within(how, 1, 99) || how % 10 == 0 || !within(sure, 0, 100)) {
            return NOT_AS_TOLD;
        }
        make(dough, n, ALL_STEPS, NO_SEED);
        for (int minutes = 0; minutes <= 30; minutes++) {
            tried.become(rope);
            tried.relax(minutes);
            tried.draw(tried.tenths(how / 10), how % 10);
            if (tried.wholeParts * 100 >= rope.wholeParts * sure) {
                return minutes;
            }
        }
        return NONE;
    }

    public int dust(int n, int most) {
        if (!areSteps(n)) {
            return TOO_FEW;
        }
        if (!within(most, 0, 100)) {
            return NOT_AS_TOLD;
        }
        make(dough, n, ALL_STEPS, NO_SEED);
        for (int more = 0; more <= MOST_DUST; more++) {
            tried.become(rope);
            tried.powder(more);
            tried.fold();
            if ((rope.freeParts - tried.freeParts) * 100 <= rope.freeParts * most) {
                return more;
            }
        }
        return NONE;
    }

    public int doublings(int n, int pace, int thin) {
        if (!areSteps(n)) {
            return TOO_FEW;
        }
        if (!within(pace, 1, 9) || !within(thin, 1, 9999)) {
            return NOT_AS_TOLD;
        }
        make(dough, n, ALL_STEPS, NO_SEED);
        for (int k = 0; k < 20; k++) {
            rope.draw(rope.allLength(), pace);
            rope.fold();
            if (rope.thick(rope.thinnest()) < thin) {
                return k;
            }
        }
        return 20;
    }

    // ---- tests

    public int judge(int n, int s, int off) {
        int refusal = refusalOfTest(n, s);
        if (refusal != FINE) {
            return refusal;
        }
        if (!within(off, 0, 9999)) {
            return NOT_AS_TOLD;
        }
        make(dough, n, ALL_STEPS, NO_SEED);
        return rope.firstOff(sheets[s], off);
    }

    public int film(int n, int s) {
        if (!areSteps(n)) {
            return TOO_FEW;
        }
        if (!isSheet(s)) {
            return BAD;
        }
        make(dough, n, ALL_STEPS, NO_SEED);
        sheets[s].become(INTS, CELLS);
        for (int c = 0; c < CELLS; c++) {
            sheets[s].put(c, rope.thick(c));
        }
        return CELLS;
    }

    public int serves(int n, int s, int what) {
        int refusal = refusalOfTest(n, s);
        if (refusal != FINE) {
            return refusal;
        }
        if (!within(what, 0, TASTES - 1)) {
            return NOT_AS_TOLD;
        }
        supposed.become(dough);
        int numbers = 0;
        for (int v = 0; v <= 9; v++) {
            supposed.tastes[what] = v;
            make(supposed, n, ALL_STEPS, NO_SEED);
            if (rope.isAsTold(sheets[s])) {
                numbers |= 1 << v;
            }
        }
        return numbers;
    }

    public int which(int n, int s) {
        int refusal = refusalOfTest(n, s);
        if (refusal != FINE) {
            return refusal;
        }
        supposed.become(dough);
        int found = 0;
        for (int t = 0; t < textCount && t < MOST_TEXTS; t++) {
            supposed.law = t;
            make(supposed, n, ALL_STEPS, NO_SEED);
            if (rope.isAsTold(sheets[s])) {
                found |= 1 << t;
            }
        }
        return found;
    }

    public int fault(int n, int s) {
        int refusal = refusalOfTest(n, s);
        if (refusal != FINE) {
            return refusal;
        }
        for (int left = 0; left < n; left++) {
            make(dough, n, left, NO_SEED);
            if (rope.isAsTold(sheets[s])) {
                return left;
            }
        }
        return NONE;
    }

    public int uneven(int n, int what) {
        if (!areSteps(n)) {
            return TOO_FEW;
        }
        if (!within(what, 0, 1)) {
            return NOT_AS_TOLD;
        }
        make(dough, n, ALL_STEPS, NO_SEED);
        int spread = rope.spread();
        int cell = 0;
        int most = 0;
        for (int c = 0; c < CELLS; c++) {
            supposed.become(dough);
            supposed.much[c] += dough.much[c] / 10;
            make(supposed, n, ALL_STEPS, NO_SEED);
            int differs = Math.abs(rope.spread() - spread);
            if (differs > most) {
                most = differs;
                cell = c;
            }
        }
        return what == 0 ? cell : most;
    }

    // ---- cooking

    public int cooks(int n, int seconds, int what) {
        if (!areSteps(n)) {
            return TOO_FEW;
        }
        if (!within(seconds, 0, 9999) || !within(what, 0, 2)) {
            return NOT_AS_TOLD;
        }
        make(dough, n, ALL_STEPS, NO_SEED);
        return rope.cooked(seconds, what);
    }

    public int pot(int n) {
        if (!areSteps(n)) {
            return TOO_FEW;
        }
        make(dough, n, ALL_STEPS, NO_SEED);
        int fewest = 0;
        int most = 0;
        // The number of done cells only grows where one begins to be done: at its own THICK.
        for (int c = 0; c < CELLS; c++) {
            int seconds = rope.thick(c);
            int done = rope.cooked(seconds, 1);
            if (done > most || done == most && seconds < fewest) {
                most = done;
                fewest = seconds;
            }
        }
        return fewest;
    }

    // ---- doublings as a map

    public int place(int p, int k) {
        if (!isPlace(p) || !within(k, 0, MOST_DOUBLINGS)) {
            return BAD;
        }
        return placeBehind(p, k);
    }

    public int apart(int p, int q, int k) {
        if (!isPlace(p) || !isPlace(q) || !within(k, 0, MOST_DOUBLINGS)) {
            return BAD;
        }
        return Math.abs(placeBehind(p, k) - placeBehind(q, k));
    }

    public int parted(int p, int q, int far) {
        if (!isPlace(p) || !isPlace(q) || !isPlace(far)) {
            return BAD;
        }
        int a = p;
        int b = q;
        for (int k = 0; k <= MOST_DOUBLINGS; k++) {
            if (Math.abs(a - b) >= far) {
                return k;
            }
            a = placeBehind(a, 1);
            b = placeBehind(b, 1);
        }
        return NONE;
    }

    public int round(int p) {
        if (!isPlace(p)) {
            return BAD;
        }
        int a = p;
        for (int k = 1; k <= MOST_DOUBLINGS; k++) {
            a = placeBehind(a, 1);
            if (a == p) {
                return k;
            }
        }
        return NONE;
    }

    public int colours(int bits, int k, int what) {
        if (!within(bits, 0, 65535) || !within(k, 0, 10) || !within(what, 0, 2)) {
            return BAD;
        }
        colour(bits, k);
        int least = strands[0];
        int most = strands[0];
        int mixed = 0;
        for (int c = 0; c < COLOURED; c++) {
            least = Math.min(least, strands[c]);
            most = Math.max(most, strands[c]);
            if (within(strands[c], 1, (1 << k) - 1)) {
                mixed++;
            }
        }
        return what == 0 ? least : what == 1 ? most : mixed;
    }

    // ---- exactly

    public long thin(int thick, int k, int part) {
        if (!within(thick, 1, 999999) || !within(k, 0, 30) || !within(part, 0, 1)) {
            return NO;
        }
        return inLowestTerms(thick, 1L << k, part);
    }

    public long odds(int above, int below, int k, int part) {
        if (!areOdds(above, below) || !within(k, 0, 10) || !within(part, 0, 1)) {
            return NO;
        }
        return inLowestTerms(multiplied(below - above, k), multiplied(below, k), part);
    }

    public int record(int above, int below, int sure) {
        if (!areOdds(above, below) || !within(sure, 0, 100)) {
            return BAD;
        }
        int most = 0;
        for (int k = 0; k <= 10; k++) {
            if (multiplied(below - above, k) * 100 >= sure * multiplied(below, k)) {
                most = k;
            }
        }
        return most;
    }

    public int drawn(int n, int c, int seed, int what) {
        if (!areSteps(n)) {
            return TOO_FEW;
        }
        if (!within(c, 0, CELLS - 1) || !within(seed, 0, 99999) || !within(what, 0, 1)) {
            return NOT_AS_TOLD;
        }
        make(dough, n, ALL_STEPS, seed);
        return what == 0 ? rope.thick(c) : rope.spread();
    }

    public int image() {
        kept.become(dough);
        imageKept = true;
        return stepCount;
    }

    public int back() {
        if (!imageKept) {
            return STATE;
        }
        dough.become(kept);
        return stepCount;
    }

    // ---- the host

    public int sheet(int s, int sort, int n) {
        if (!isSheet(s) || !within(sort, MISSING, INTS)) {
            return BAD;
        }
        if (sort == MISSING) {
            sheets[s].become(MISSING, 0);
            return 1;
        }
        if (n > SHEET_SIZE) {
            return BAD;
        }
        if (n < 0) {
            return BELOW_ZERO;
        }
        sheets[s].become(sort, n);
        return 1;
    }

    public int cell(int s, int i, int v) {
        if (!isSheet(s)) {
            return BAD;
        }
        if (sheets[s].sort == MISSING) {
            return NOTHING;
        }
        if (!sheets[s].has(i, 1)) {
            return OUTSIDE;
        }
        sheets[s].put(i, v);
        return 1;
    }

    public int copy(int s, int i, int other, int j, int n) {
        if (!isSheet(s) || !isSheet(other)) {
            return BAD;
        }
        if (sheets[s].sort == MISSING || sheets[other].sort == MISSING) {
            return NOTHING;
        }
        if (sheets[s].sort != sheets[other].sort) {
            return UNLIKE;
        }
        if (!sheets[s].has(i, n) || !sheets[other].has(j, n)) {
            return OUTSIDE;
        }
        System.arraycopy(sheets[s].numbers, i, sheets[other].numbers, j, n);
        return n;
    }

    public int stepsBy(int s, int sort, int at, int n) {
        if (!isSheet(s) || !within(sort, BYTES, INTS) || !within(n, 0, MOST_STEPS)) {
            return BAD;
        }
        if (sheets[s].sort == MISSING) {
            return NOTHING;
        }
        if (sheets[s].sort != sort) {
            return UNLIKE;
        }
        int came = 0;
        int i = at;
        for (int k = 0; k < n; k++) {
            if (!sheets[s].has(i, 3)) {
                return OUTSIDE;
            }
            int[] row = sheets[s].numbers;
            if (step(row[i], row[i + 1], row[i + 2]) >= 0) {
                came++;
            }
            i += 3;
        }
        return came;
    }

    public int taken(int i, int kind) {
        if (!within(kind, 0, KINDS)) {
            return BAD;
        }
        if (!within(i, 0, CELLS + MOST_STEPS - 1)) {
            return OUTSIDE;
        }
        if (i < CELLS) {
            return kind == KINDS ? dough.much[i] : UNLIKE;
        }
        int s = i - CELLS;
        if (!isStep(s)) {
            return NOTHING;
        }
        return kind < KINDS && steps[s].isA(kind) ? s : UNLIKE;
    }

    // ---- what several calls use

    private static boolean within(int v, int least, int most) {
        return v >= least && v <= most;
    }

    /** A quotient, cut; none of a divisor that is not above 0. */
    private static long quotient(long a, long b) {
        return b > 0 ? a / b : 0;
    }

    private boolean isStep(int s) {
        return within(s, 0, stepCount - 1) && s < MOST_STEPS;
    }

    private boolean areSteps(int n) {
        return within(n, 0, stepCount) && n <= MOST_STEPS;
    }

    private static boolean isSheet(int s) {
        return within(s, 0, SHEETS - 1);
    }

    private static boolean isPlace(int p) {
        return within(p, 0, PLACES - 1);
    }

    private static boolean areOdds(int above, int below) {
        return within(below, 1, 30) && within(above, 0, below);
    }

    private int refusalOfTest(int n, int s) {
        if (!areSteps(n)) {
            return TOO_FEW;
        }
        if (!isSheet(s)) {
            return BAD;
        }
        if (sheets[s].sort == MISSING) {
            return NOTHING;
        }
        return sheets[s].size == CELLS ? FINE : BAD;
    }

    /** Makes the rope that n steps but the one left out (or ALL_STEPS) make of a dough, by lot if there is a seed. */
    private void make(Dough from, int n, int left, int seed) {
        if (within(from.law, 0, MOST_TEXTS - 1)) {
            hands.law = texts[from.law];
        }
        hands.wet = from.tastes[WET];
        hands.warm = from.tastes[WARM];
        hands.wander(seed);
        rope.begin(from);
        for (int s = 0; s < n && s < MOST_STEPS; s++) {
            if (s != left) {
                rope.make(steps[s]);
            }
        }
    }

    private void tryDrawing(int more, int pace) {
        tried.become(rope);
        tried.draw(tried.tenths(more), pace);
    }

    private int allTake(int n) {
        int all = 0;
        for (int s = 0; s < n && s < MOST_STEPS; s++) {
            all += steps[s].takes();
        }
        return all;
    }

    private static int placeBehind(int p, int k) {
        int a = p;
        for (int i = 0; i < k; i++) {
            a = a < PLACES / 2 ? 2 * a : 2 * (PLACES - 1 - a) + 1;
        }
        return a;
    }

    private void colour(int bits, int k) {
        for (int c = 0; c < COLOURED; c++) {
            strands[c] = bits >> c & 1;
        }
        for (int i = 0; i < k; i++) {
            for (int c = 0; c < COLOURED; c++) {
                doubled[c] = strands[c / 2] + strands[COLOURED - 1 - c / 2];
            }
            System.arraycopy(doubled, 0, strands, 0, COLOURED);
        }
    }

    private static long multiplied(int a, int k) {
        long product = 1;
        for (int i = 0; i < k; i++) {
            product *= a;
        }
        return product;
    }

    private static long inLowestTerms(long above, long below, int part) {
        long a = above;
        long b = below;
        // Each two rounds halve b at least, so that 200 are more than a long can need.
        for (int i = 0; i < 200 && b != 0; i++) {
            long rest = a % b;
            a = b;
            b = rest;
        }
        return quotient(part == 0 ? above : below, a);
    }

    /** What is rolled, mixed and held for the law: all that an image keeps. */
    private static final class Dough {
        final int[] much = new int[CELLS];
        final int[] length = new int[CELLS];
        final int[] tastes = {5, 2, 5};
        int law = 0;

        Dough() {
            for (int c = 0; c < CELLS; c++) {
                much[c] = 60000;
                length[c] = 100;
            }
        }

        void become(Dough other) {
            System.arraycopy(other.much, 0, much, 0, CELLS);
            System.arraycopy(other.length, 0, length, 0, CELLS);
            System.arraycopy(other.tastes, 0, tastes, 0, TASTES);
            law = other.law;
        }
    }

    private static final class Step {
        int kind = REST;
        int more = 0;
        int pace = 1;

        void become(int newKind, int newMore, int newPace) {
            kind = newKind;
            more = newMore;
            pace = newPace;
        }

        int takes() {
            switch (kind) {
                case PULL: return 10 - pace;
                case BOUNCE: return 12 - pace;
                case FOLD: return 3;
                case DUSTING: return more + 1;
                case CUT: return more + 3;
                default: return 10 * more;
            }
        }

        boolean isA(int wanted) {
            int is = kind;
            for (int i = 0; i < KINDS && within(is, 0, KINDS - 1); i++) {
                if (is == wanted) {
                    return true;
                }
                is = IS_A[is];
            }
            return false;
        }
    }

    /** The rope as steps make it, cell by cell. */
    private static final class Rope {
        final int[] much = new int[CELLS];
        final int[] length = new int[CELLS];
        final int[] stiff = new int[CELLS];
        private final int[] eases = new int[CELLS];
        private final int[] spare = new int[CELLS];
        private final long[] shares = new long[CELLS];
        private final Hands hands;
        int folds = 0;
        int dusted = 0;
        int cutOff = 0;
        long wholeParts = PARTS;
        long freeParts = PARTS;

        Rope(Hands hands) {
            this.hands = hands;
        }

        void begin(Dough from) {
            System.arraycopy(from.much, 0, much, 0, CELLS);
            System.arraycopy(from.length, 0, length, 0, CELLS);
            for (int c = 0; c < CELLS; c++) {
                stiff[c] = 0;
            }
            folds = 0;
            dusted = 0;
            cutOff = 0;
            wholeParts = PARTS;
            freeParts = PARTS;
        }

        void become(Rope other) {
            System.arraycopy(other.much, 0, much, 0, CELLS);
            System.arraycopy(other.length, 0, length, 0, CELLS);
            System.arraycopy(other.stiff, 0, stiff, 0, CELLS);
            folds = other.folds;
            dusted = other.dusted;
            cutOff = other.cutOff;
            wholeParts = other.wholeParts;
            freeParts = other.freeParts;
        }

        void make(Step step) {
            switch (step.kind) {
                case PULL:
                    draw(tenths(step.more), step.pace);
                    break;
                case BOUNCE:
                    draw(tenths(step.more), step.pace);
                    bounce();
                    break;
                case FOLD:
                    fold();
                    break;
                case DUSTING:
                    powder(step.more);
                    break;
                case CUT:
                    fold();
                    cutEnd(0, step.more);
                    cutEnd(CELLS - 1, step.more);
                    break;
                default:
                    relax(step.more);
            }
        }

        void relax(int minutes) {
            for (int c = 0; c < CELLS; c++) {
                stiff[c] = Math.max(0, stiff[c] - minutes * (hands.warm + 1));
            }
        }

        void draw(long x, int pace) {
            long all = 0;
            for (int c = 0; c < CELLS; c++) {
                eases[c] = hands.ease(this, c, pace);
                all += eases[c];
            }
            long over = x;
            for (int c = 0; c < CELLS; c++) {
                shares[c] = quotient(x * eases[c], all);
                over -= shares[c];
            }
            for (int c = 0; c < CELLS; c++) {
                lengthen(c, c < over ? shares[c] + 1 : shares[c], pace);
            }
            for (int c = 0; c < CELLS; c++) {
                wholeParts = wholeParts * (100 - hands.tears(this, c, pace)) / 100;
            }
        }

        private void lengthen(int c, long share, int pace) {
            length[c] = (int) Math.min(LONGEST, length[c] + share);
            stiff[c] = (int) Math.min(MOST_STIFF, stiff[c] + quotient(share * pace * 10, length[c]));
        }

        private void bounce() {
            for (int c = 0; c < CELLS; c++) {
                int left = c > 0 ? length[c - 1] : length[c];
                int right = c < CELLS - 1 ? length[c + 1] : length[c];
                spare[c] = (2 * length[c] + left + right) / 4;
            }
            System.arraycopy(spare, 0, length, 0, CELLS);
        }

        void fold() {
            foldRow(much, 4, 0);
            foldRow(length, 4, 1);
            foldRow(stiff, 2, 0);
            folds++;
            freeParts = freeParts * (100 - hands.sticks(this)) / 100;
        }

        private void foldRow(int[] row, int by, int least) {
            for (int a = 0; a < CELLS / 2; a++) {
                int both = row[a] + row[CELLS - 1 - a];
                spare[a] = Math.max(least, (int) quotient(both, by));
            }
            for (int c = 0; c < CELLS; c++) {
                row[c] = spare[c / 2];
            }
        }

        void powder(int more) {
            dusted = Math.min(MOST_DUST, dusted + more);
        }

        private void cutEnd(int c, int more) {
            int off = much[c] * more / 10;
            cutOff += off;
            much[c] = Math.max(1, much[c] - off);
            length[c] = Math.max(1, length[c] - length[c] * more / 10);
        }

        int thick(int c) {
            return c >= 0 && c < CELLS && length[c] > 0 ? much[c] / length[c] : 0;
        }

        int thinnest() {
            int least = 0;
            for (int c = 1; c < CELLS; c++) {
                if (thick(c) < thick(least)) {
                    least = c;
                }
            }
            return least;
        }

        int thickest() {
            int most = 0;
            for (int c = 1; c < CELLS; c++) {
                if (thick(c) > thick(most)) {
                    most = c;
                }
            }
            return most;
        }

        int spread() {
            return thick(thickest()) - thick(thinnest());
        }

        boolean isMoreEvenThan(Rope other) {
            long own = (long) thick(thickest()) * Math.max(1, other.thick(other.thinnest()));
            long its = (long) other.thick(other.thickest()) * Math.max(1, thick(thinnest()));
            return own < its;
        }

        long allLength() {
            long all = 0;
            for (int c = 0; c < CELLS; c++) {
                all += length[c];
            }
            return all;
        }

        long tenths(int more) {
            return allLength() * more / 10;
        }

        /** What is whole and free. */
        long goodParts() {
            return wholeParts * freeParts / PARTS;
        }

        /** How many cells are raw (0), done (1), mush (2). */
        int cooked(int seconds, int what) {
            int many = 0;
            for (int c = 0; c < CELLS; c++) {
                int is = seconds < thick(c) ? 0 : seconds < 2 * thick(c) ? 1 : 2;
                if (is == what) {
                    many++;
                }
            }
            return many;
        }

        int firstOff(Sheet sheet, int off) {
            for (int c = 0; c < CELLS; c++) {
                long far = (long) thick(c) - sheet.numbers[c];
                if (far > off || far < -off) {
                    return c;
                }
            }
            return NONE;
        }

        boolean isAsTold(Sheet sheet) {
            return firstOff(sheet, 0) == NONE;
        }
    }

    /** How a rope is handled: by which law, how wet and warm, and whether the hands wander. */
    private static final class Hands {
        private static final int STICKS_AT = 0, NO_PACE = 0;
        private static final long TIMES = 48271, MODULO = 2147483647;

        private final int[] names = new int[Text.NAMES];
        Text law;
        int wet = 0;
        int warm = 0;
        private boolean wandering = false;
        private long lot = 1;

        Hands(Text law) {
            this.law = law;
        }

        void wander(int seed) {
            wandering = seed != NO_SEED;
            lot = seed + 1L;
        }

        int ease(Rope rope, int c, int pace) {
            long draw = says(Text.DRAW, rope, c, pace);
            if (wandering) {
                lot = lot * TIMES % MODULO;
                draw += lot % 5 - 2;
            }
            return (int) Math.max(1, Math.min(99, draw));
        }

        int tears(Rope rope, int c, int pace) {
            return Math.max(0, Math.min(100, says(Text.TEARS, rope, c, pace)));
        }

        int sticks(Rope rope) {
            return Math.max(0, Math.min(100, says(Text.STICKS, rope, STICKS_AT, NO_PACE)));
        }

        private int says(int part, Rope rope, int c, int pace) {
            names[0] = wet;
            names[1] = rope.thick(c);
            names[2] = rope.stiff[c];
            names[3] = pace;
            names[4] = rope.folds;
            names[5] = rope.dusted;
            return law.value(part, names);
        }
    }

    /**
     * A text, as codes to be gone through from first to last with a stack:
     * a number stands for itself, a name and a sign are below 0.
     */
    private static final class Text {
        static final int DRAW = 0, TEARS = 1, STICKS = 2, SECTIONS = 3;
        static final int NAMES = 6;
        static final int OR = -11, AND = -12, NOT = -13, LESS = -14, LIKE = -15;
        static final int PLUS = -16, MINUS = -17, TIMES = -18, NEGATED = -19;
        /** Five left sides at most wait in each of six nested parts, and one is in hand. */
        private static final int DEEPEST = 40;

        private final int[] codes = new int[TAPE];
        private final int[] ends = new int[SECTIONS];
        private final int[] stack = new int[DEEPEST];
        private int size = 0;

        void clear() {
            size = 0;
        }

        static int nameCode(int name) {
            return -1 - name;
        }

        void add(int code) {
            if (size < TAPE) {
                codes[size] = code;
                size++;
            }
        }

        void endSection(int section) {
            if (within(section, 0, SECTIONS - 1)) {
                ends[section] = size;
            }
        }

        int value(int section, int[] names) {
            if (!within(section, 0, SECTIONS - 1)) {
                return 0;
            }
            int top = -1;
            for (int i = section == 0 ? 0 : ends[section - 1]; i < ends[section] && i < TAPE; i++) {
                int code = codes[i];
                if (code > OR) {
                    top++;
                    if (top >= DEEPEST) {
                        return 0;
                    }
                    stack[top] = code >= 0 ? code : named(code, names);
                } else if (code == NOT || code == NEGATED) {
                    if (top < 0) {
                        return 0;
                    }
                    stack[top] = code == NEGATED ? -stack[top] : stack[top] == 0 ? 1 : 0;
                } else {
                    if (top < 1) {
                        return 0;
                    }
                    top--;
                    stack[top] = joined(code, stack[top], stack[top + 1]);
                }
            }
            return top < 0 ? 0 : stack[top];
        }

        private static int named(int code, int[] names) {
            int name = -1 - code;
            return name >= 0 && name < names.length ? names[name] : 0;
        }

        private static int joined(int code, int a, int b) {
            switch (code) {
                case OR: return a != 0 || b != 0 ? 1 : 0;
                case AND: return a != 0 && b != 0 ? 1 : 0;
                case LESS: return a < b ? 1 : 0;
                case LIKE: return a == b ? 1 : 0;
                case PLUS: return a + b;
                case MINUS: return a - b;
                default: return a * b;
            }
        }
    }

    /** The tape, and the reading of a text from it, token by token. */
    private static final class Reader {
        private static final int END = 0, NO_TOKEN = 1, NUMBER = 2, NAME = 3;
        /** The keys, in the order of WORDS; no sign is below 40. */
        private static final int DRAW = 10, OR = 13, AND = 14, NOT = 15;
        private static final String WORDS =
            "draw  tears sticksor    and   not   wet   thick stiff pace  folds dust  ";
        private static final int WIDTH = 6, KEYS = 6, WORD_COUNT = 12;
        private static final String SIGNS = "();+-*<=";
        private static final int LONGEST_NUMBER = 4, MOST_OPEN = 5;

        private final int[] bytes = new int[TAPE];
        int size = 0;
        private int at = 0;
        private int token = END;
        /** The token's first byte: where a reading that stops has its fault. */
        private int start = 0;
        /** Which number, which name the token is. */
        private int told = 0;

        void add(int b) {
            if (size < TAPE) {
                bytes[size] = b;
                size++;
            }
        }

        void empty() {
            size = 0;
        }

        /** Reads the tape into a text: NONE, or the place of the fault. */
        int read(Text text) {
            text.clear();
            at = 0;
            advance();
            for (int section = 0; section < Text.SECTIONS; section++) {
                if (token != DRAW + section) {
                    return start;
                }
                advance();
                if (!readEither(text, 0) || token != ';') {
                    return start;
                }
                advance();
                text.endSection(section);
            }
            return token == END ? NONE : start;
        }

        private boolean readEither(Text text, int open) {
            if (!readBoth(text, open)) {
                return false;
            }
            for (int i = 0; i < TAPE && token == OR; i++) {
                advance();
                if (!readBoth(text, open)) {
                    return false;
                }
                text.add(Text.OR);
            }
            return true;
        }

        private boolean readBoth(Text text, int open) {
            if (!readNot(text, open)) {
                return false;
            }
            for (int i = 0; i < TAPE && token == AND; i++) {
                advance();
                if (!readNot(text, open)) {
                    return false;
                }
                text.add(Text.AND);
            }
            return true;
        }

        private boolean readNot(Text text, int open) {
            if (token != NOT) {
                return readCompared(text, open);
            }
            if (open >= MOST_OPEN) {
                return false;
            }
            advance();
            if (!readNot(text, open + 1)) {
                return false;
            }
            text.add(Text.NOT);
            return true;
        }

        private boolean readCompared(Text text, int open) {
            if (!readSum(text, open)) {
                return false;
            }
            if (token != '<' && token != '=') {
                return true;
            }
            int code = token == '<' ? Text.LESS : Text.LIKE;
            advance();
            if (!readSum(text, open)) {
                return false;
            }
            text.add(code);
            return true;
        }

        private boolean readSum(Text text, int open) {
            if (!readProduct(text, open)) {
                return false;
            }
            for (int i = 0; i < TAPE && (token == '+' || token == '-'); i++) {
                int code = token == '+' ? Text.PLUS : Text.MINUS;
                advance();
                if (!readProduct(text, open)) {
                    return false;
                }
                text.add(code);
            }
            return true;
        }

        private boolean readProduct(Text text, int open) {
            if (!readOne(text, open)) {
                return false;
            }
            for (int i = 0; i < TAPE && token == '*'; i++) {
                advance();
                if (!readOne(text, open)) {
                    return false;
                }
                text.add(Text.TIMES);
            }
            return true;
        }

        private boolean readOne(Text text, int open) {
            if (token == NUMBER || token == NAME) {
                text.add(token == NUMBER ? told : Text.nameCode(told));
                advance();
                return true;
            }
            if (token != '-' && token != '(' || open >= MOST_OPEN) {
                return false;
            }
            boolean minus = token == '-';
            advance();
            if (minus) {
                if (!readOne(text, open + 1)) {
                    return false;
                }
                text.add(Text.NEGATED);
                return true;
            }
            if (!readEither(text, open + 1) || token != ')') {
                return false;
            }
            advance();
            return true;
        }

        private void advance() {
            for (int i = 0; i < TAPE && (byteAt(at) == 32 || byteAt(at) == 10); i++) {
                at++;
            }
            start = at;
            int b = byteAt(at);
            if (b == NONE) {
                token = END;
            } else if (isLetter(b)) {
                readWord();
            } else if (isDigit(b)) {
                readNumber();
            } else {
                at++;
                token = SIGNS.indexOf((char) b) >= 0 ? b : NO_TOKEN;
            }
        }

        private int byteAt(int i) {
            return i >= 0 && i < size && i < TAPE ? bytes[i] : NONE;
        }

        private static boolean isLetter(int b) {
            return within(b, 'a', 'z');
        }

        private static boolean isDigit(int b) {
            return within(b, '0', '9');
        }

        private void readNumber() {
            int value = 0;
            for (int i = 0; i < TAPE && isDigit(byteAt(at)); i++) {
                value = i < LONGEST_NUMBER ? value * 10 + byteAt(at) - '0' : value;
                at++;
            }
            token = at - start > LONGEST_NUMBER ? NO_TOKEN : NUMBER;
            told = value;
        }

        private void readWord() {
            for (int i = 0; i < TAPE && isLetter(byteAt(at)); i++) {
                at++;
            }
            token = NO_TOKEN;
            for (int w = 0; w < WORD_COUNT && token == NO_TOKEN; w++) {
                if (isWord(w)) {
                    token = w < KEYS ? DRAW + w : NAME;
                    told = w - KEYS;
                }
            }
        }

        private boolean isWord(int w) {
            if (at - start > WIDTH) {
                return false;
            }
            for (int i = 0; i < WIDTH; i++) {
                int letter = start + i < at ? byteAt(start + i) : ' ';
                int place = w * WIDTH + i;
                if (place < 0 || place >= WORDS.length() || WORDS.charAt(place) != letter) {
                    return false;
                }
            }
            return true;
        }
    }

    /** A row of numbers of a sort, or missing. */
    private static final class Sheet {
        final int[] numbers = new int[SHEET_SIZE];
        int sort = MISSING;
        int size = 0;

        void become(int newSort, int newSize) {
            sort = newSort;
            size = Math.max(0, Math.min(SHEET_SIZE, newSize));
            for (int i = 0; i < SHEET_SIZE; i++) {
                numbers[i] = 0;
            }
        }

        /** Whether n numbers stand from i on. */
        boolean has(int i, int n) {
            return i >= 0 && n >= 0 && (long) i + n <= size;
        }

        void put(int i, int v) {
            if (has(i, 1)) {
                numbers[i] = sort == BYTES ? (byte) v : sort == SHORTS ? (short) v : v;
            }
        }
    }
}
