import java.math.BigInteger;
import java.util.ArrayList;
import java.util.Arrays;
import java.util.HashMap;
import java.util.List;
import java.util.Map;
import java.util.function.Predicate;

/**
 * The document once more, written apart from the program and another way (new objects for all, texts as
 * functions, faults as exceptions), so that ModelTest can set the two side by side.
 */
final class Model {
    static final long NO = -4611686018427387904L;

    private interface Value {
        int of(Map<String, Integer> names);
    }

    private record Step(int kind, int more, int pace) {
        int takes() {
            return switch (kind) {
                case 0 -> 10 * more;
                case 1 -> 10 - pace;
                case 2 -> 10 - pace + 2;
                case 3 -> 3;
                case 4 -> more + 1;
                default -> 3 + more;
            };
        }
    }

    private record Dough(int[] much, int[] length, int wet, int salt, int warm, int law) {
        Dough with(int[] otherMuch) {
            return new Dough(otherMuch, length, wet, salt, warm, law);
        }

        Dough withTaste(int what, int v) {
            return new Dough(much, length, what == 0 ? v : wet, what == 1 ? v : salt, what == 2 ? v : warm, law);
        }

        Dough withLaw(int other) {
            return new Dough(much, length, wet, salt, warm, other);
        }

        int taste(int what) {
            return what == 0 ? wet : what == 1 ? salt : warm;
        }
    }

    private static final class Refused extends RuntimeException {
        private static final long serialVersionUID = 1;
        final long why;

        Refused(long why) {
            super(null, null, false, false);
            this.why = why;
        }
    }

    /** The lots of a seed, one behind the other. */
    private static final class Lots {
        BigInteger last;

        Lots(int seed) {
            last = BigInteger.valueOf(seed).add(BigInteger.ONE);
        }

        int next() {
            last = last.multiply(BigInteger.valueOf(48271)).mod(BigInteger.valueOf(2147483647));
            return last.mod(BigInteger.valueOf(5)).intValue() - 2;
        }
    }

    /** A rope; each doing changes it in place, a copy is made first where it is only supposed. */
    private final class Rope {
        long[] much = new long[12];
        long[] length = new long[12];
        long[] stiff = new long[12];
        long folds;
        long dust;
        long cut;
        BigInteger whole = BigInteger.valueOf(1000000000);
        BigInteger free = BigInteger.valueOf(1000000000);
        Dough from;
        Lots lots;

        Rope(Dough from, Lots lots) {
            this.from = from;
            this.lots = lots;
            for (int c = 0; c < 12; c++) {
                much[c] = from.much[c];
                length[c] = from.length[c];
            }
        }

        Rope copy() {
            Rope r = new Rope(from, lots);
            r.much = much.clone();
            r.length = length.clone();
            r.stiff = stiff.clone();
            r.folds = folds;
            r.dust = dust;
            r.cut = cut;
            r.whole = whole;
            r.free = free;
            return r;
        }

        long thick(int c) {
            return much[c] / length[c];
        }

        long greatest() {
            long g = thick(0);
            for (int c = 0; c < 12; c++) {
                g = Math.max(g, thick(c));
            }
            return g;
        }

        long least() {
            long l = thick(0);
            for (int c = 0; c < 12; c++) {
                l = Math.min(l, thick(c));
            }
            return l;
        }

        long spread() {
            return greatest() - least();
        }

        long firstOf(long thick) {
            for (int c = 0; c < 12; c++) {
                if (thick(c) == thick) {
                    return c;
                }
            }
            throw new IllegalStateException();
        }

        long all() {
            return Arrays.stream(length).sum();
        }

        long asked(int what, int c, int pace) {
            Map<String, Integer> names = new HashMap<>();
            names.put("wet", from.wet);
            names.put("thick", (int) thick(c));
            names.put("stiff", (int) stiff[c]);
            names.put("pace", pace);
            names.put("folds", (int) folds);
            names.put("dust", (int) dust);
            return texts.get(from.law)[what].of(names);
        }

        Rope drawn(long x, int pace) {
            long[] ease = new long[12];
            long allEase = 0;
            for (int c = 0; c < 12; c++) {
                long raw = asked(0, c, pace) + (lots == null ? 0 : lots.next());
                ease[c] = raw < 1 ? 1 : raw > 99 ? 99 : raw;
                allEase += ease[c];
            }
            long[] share = new long[12];
            long left = x;
            for (int c = 0; c < 12; c++) {
                share[c] = x * ease[c] / allEase;
                left -= share[c];
            }
            for (int c = 0; left > 0; c = (c + 1) % 12) {
                share[c]++;
                left--;
            }
            for (int c = 0; c < 12; c++) {
                length[c] = Math.min(1000000, length[c] + share[c]);
                stiff[c] = Math.min(99, stiff[c] + share[c] * pace * 10 / length[c]);
            }
            for (int c = 0; c < 12; c++) {
                whole = whole.multiply(BigInteger.valueOf(100 - percent(asked(1, c, pace)))).divide(hundred());
            }
            return this;
        }

        private BigInteger hundred() {
            return BigInteger.valueOf(100);
        }

        private long percent(long p) {
            return p < 0 ? 0 : p > 100 ? 100 : p;
        }

        Rope bounced() {
            long[] was = length.clone();
            for (int c = 0; c < 12; c++) {
                length[c] = (2 * was[c] + was[Math.max(0, c - 1)] + was[Math.min(11, c + 1)]) / 4;
            }
            return this;
        }

        Rope folded() {
            Rope was = copy();
            for (int c = 0; c < 12; c++) {
                int a = c / 2;
                int b = 11 - a;
                much[c] = (was.much[a] + was.much[b]) / 4;
                length[c] = Math.max(1, (was.length[a] + was.length[b]) / 4);
                stiff[c] = (was.stiff[a] + was.stiff[b]) / 2;
            }
            folds++;
            free = free.multiply(BigInteger.valueOf(100 - percent(asked(2, 0, 0)))).divide(hundred());
            return this;
        }

        Rope rested(int minutes) {
            for (int c = 0; c < 12; c++) {
                stiff[c] = Math.max(0, stiff[c] - (long) minutes * (from.warm + 1));
            }
            return this;
        }

        Rope dusted(int more) {
            dust = Math.min(99, dust + more);
            return this;
        }

        Rope cutAt(int more) {
            for (int c = 0; c < 12; c += 11) {
                long off = much[c] * more / 10;
                cut += off;
                much[c] = Math.max(1, much[c] - off);
                length[c] = Math.max(1, length[c] - length[c] * more / 10);
            }
            return this;
        }

        Rope behind(Step s) {
            return switch (s.kind) {
                case 0 -> rested(s.more);
                case 1 -> drawn(all() * s.more / 10, s.pace);
                case 2 -> drawn(all() * s.more / 10, s.pace).bounced();
                case 3 -> folded();
                case 4 -> dusted(s.more);
                default -> folded().cutAt(s.more);
            };
        }

        BigInteger good() {
            return whole.multiply(free).divide(BigInteger.valueOf(1000000000));
        }

        boolean isAs(int[] sheet) {
            for (int c = 0; c < 12; c++) {
                if (thick(c) != sheet[c]) {
                    return false;
                }
            }
            return true;
        }

        long cooked(long seconds, int what) {
            long many = 0;
            for (int c = 0; c < 12; c++) {
                boolean raw = seconds < thick(c);
                boolean done = !raw && seconds < 2 * thick(c);
                if (what == 0 && raw || what == 1 && done || what == 2 && !raw && !done) {
                    many++;
                }
            }
            return many;
        }
    }

    private Dough dough;
    private Dough kept = null;
    private final List<Step> steps = new ArrayList<>();
    private final List<Value[]> texts = new ArrayList<>();
    private final List<Integer> tape = new ArrayList<>();
    private final int[][] sheets = new int[4][];
    private final int[] sorts = {-1, -1, -1, -1};

    Model() {
        int[] much = new int[12];
        int[] length = new int[12];
        Arrays.fill(much, 60000);
        Arrays.fill(length, 100);
        dough = new Dough(much, length, 5, 2, 5, 0);
        for (char c : "draw 20+wet*2-stiff;tears 40<pace*9-thick;sticks folds*2-dust;".toCharArray()) {
            tape.add((int) c);
        }
        if (text() != 0) {
            throw new IllegalStateException("TEXT 0 has a fault");
        }
    }

    // ---- refusals

    private static void need(boolean as, long why) {
        if (!as) {
            throw new Refused(why);
        }
    }

    private static boolean in(long v, long least, long most) {
        return least <= v && v <= most;
    }

    private interface Answer {
        long get();
    }

    private static long told(Answer a) {
        try {
            return a.get();
        } catch (Refused r) {
            return r.why;
        }
    }

    private void needSteps(int n) {
        need(in(n, 0, steps.size()), -5);
    }

    private void needTest(int n, int s) {
        needSteps(n);
        need(in(s, 0, 3), -2);
        need(sheets[s] != null, -11);
        need(sheets[s].length == 12, -2);
    }

    private Rope make(Dough d, int n, int left, Lots lots) {
        Rope r = new Rope(d, lots);
        for (int s = 0; s < n; s++) {
            if (s != left) {
                r.behind(steps.get(s));
            }
        }
        return r;
    }

    private Rope behind(int n) {
        return make(dough, n, -1, null);
    }

    // ---- the face

    long roll(int c, int what, int v) {
        return told(() -> {
            need(in(c, 0, 11), -5);
            need(in(what, 0, 1), -7);
            need(in(v, 1, what == 0 ? 99999 : 999), -7);
            int[] much = dough.much.clone();
            int[] length = dough.length.clone();
            int[] row = what == 0 ? much : length;
            int was = row[c];
            row[c] = v;
            dough = new Dough(much, length, dough.wet, dough.salt, dough.warm, dough.law);
            return was;
        });
    }

    long set(int what, int v) {
        return told(() -> {
            need(in(what, 0, 2), -1);
            need(in(v, 0, 9), -2);
            int was = dough.taste(what);
            dough = dough.withTaste(what, v);
            return was;
        });
    }

    long count(int what) {
        return switch (what) {
            case 0, 1, 2 -> dough.taste(what);
            case 3 -> steps.size();
            case 4 -> texts.size();
            case 5 -> dough.law;
            case 6 -> tape.size();
            default -> -2;
        };
    }

    long feed(long w, int n) {
        return told(() -> {
            need(in(n, 1, 8), -2);
            need(tape.size() + n <= 160, -4);
            for (int i = n - 1; i >= 0; i--) {
                tape.add((int) (w >> (8 * i) & 255));
            }
            return tape.size();
        });
    }

    long text() {
        if (texts.size() == 6) {
            return -4;
        }
        try {
            texts.add(new Reading(tape).read());
            return texts.size() - 1;
        } catch (Fault f) {
            return -100 - f.place;
        } finally {
            tape.clear();
        }
    }

    long force(int t) {
        return told(() -> {
            need(in(t, 0, texts.size() - 1), -2);
            int was = dough.law;
            dough = dough.withLaw(t);
            return was;
        });
    }

    long step(int kind, int more, int pace) {
        return told(() -> {
            need(in(kind, 0, 5) && in(more, 0, 9) && in(pace, 1, 9), -2);
            need(steps.size() < 12, -4);
            steps.add(new Step(kind, more, pace));
            return steps.size() - 1;
        });
    }

    long forget() {
        return told(() -> {
            need(!steps.isEmpty(), -3);
            steps.remove(steps.size() - 1);
            return steps.size();
        });
    }

    long stepTold(int s, int what) {
        return told(() -> {
            need(in(s, 0, steps.size() - 1), -5);
            need(in(what, 0, 3), -7);
            Step step = steps.get(s);
            return new int[] {step.kind, step.more, step.pace, step.takes()}[what];
        });
    }

    long rope(int n, int c, int what) {
        return told(() -> {
            needSteps(n);
            need(in(c, 0, 11) && in(what, 0, 2), -7);
            Rope r = behind(n);
            return what == 0 ? r.thick(c) : what == 1 ? r.length[c] : r.stiff[c];
        });
    }

    long state(int n, int what) {
        return told(() -> {
            needSteps(n);
            need(in(what, 0, 7), -7);
            Rope r = behind(n);
            long takes = steps.stream().limit(n).mapToLong(Step::takes).sum();
            long doubled = r.all();
            for (int f = 0; f < r.folds; f++) {
                doubled *= 2;
            }
            return new long[] {r.firstOf(r.least()), r.firstOf(r.greatest()), r.spread(), r.folds, doubled,
                r.dust, r.cut, takes}[what];
        });
    }

    long whole(int n, int what) {
        return told(() -> {
            need(in(n, 0, steps.size()) && in(what, 0, 2), NO);
            Rope r = behind(n);
            return (what == 0 ? r.whole : what == 1 ? r.free : r.good()).longValueExact();
        });
    }

    long stop(int sure) {
        return told(() -> {
            need(in(sure, 0, 100), -2);
            for (int n = steps.size(); n > 0; n--) {
                if (behind(n).good().compareTo(BigInteger.valueOf(sure * 10000000L)) >= 0) {
                    return n;
                }
            }
            return 0;
        });
    }

    long worst() {
        long most = 0;
        int step = -1;
        for (int s = 0; s < steps.size(); s++) {
            long lost = behind(s).good().subtract(behind(s + 1).good()).longValueExact();
            if (lost > most) {
                most = lost;
                step = s;
            }
        }
        return step;
    }

    long window(int n, int more) {
        return told(() -> {
            needSteps(n);
            need(in(more, 0, 9), -7);
            long bits = 0;
            for (int p = 1; p <= 9; p++) {
                Rope was = behind(n);
                Rope r = behind(n).drawn(was.all() * more / 10, p);
                if (r.greatest() * Math.max(1, was.least()) < was.greatest() * Math.max(1, r.least())) {
                    bits += 1L << p;
                }
            }
            return bits;
        });
    }

    long pace(int n, int more, int what) {
        return told(() -> {
            needSteps(n);
            need(in(more, 0, 9) && in(what, 0, 1), -7);
            int best = 0;
            Rope bestRope = null;
            for (int p = 1; p <= 9; p++) {
                Rope r = behind(n);
                r.drawn(r.all() * more / 10, p);
                boolean better = bestRope == null
                    || (what == 0 ? r.whole.compareTo(bestRope.whole) > 0 : r.spread() < bestRope.spread());
                if (better) {
                    best = p;
                    bestRope = r;
                }
            }
            return best;
        });
    }

    long rest(int n, int how, int sure) {
        return told(() -> {
            needSteps(n);
            need(in(how, 0, 99) && in(how % 10, 1, 9) && in(sure, 0, 100), -7);
            BigInteger need = behind(n).whole.multiply(BigInteger.valueOf(sure));
            for (int m = 0; m <= 30; m++) {
                Rope r = behind(n).rested(m);
                r.drawn(r.all() * (how / 10) / 10, how % 10);
                if (r.whole.multiply(BigInteger.valueOf(100)).compareTo(need) >= 0) {
                    return m;
                }
            }
            return -1;
        });
    }

    long dust(int n, int most) {
        return told(() -> {
            needSteps(n);
            need(in(most, 0, 100), -7);
            Rope was = behind(n);
            for (int d = 0; was.dust + d <= 99; d++) {
                BigInteger lost = was.free.subtract(was.copy().dusted(d).folded().free);
                BigInteger can = was.free.multiply(BigInteger.valueOf(most));
                if (lost.multiply(BigInteger.valueOf(100)).compareTo(can) <= 0) {
                    return d;
                }
            }
            return -1;
        });
    }

    long doublings(int n, int pace, int thin) {
        return told(() -> {
            needSteps(n);
            need(in(pace, 1, 9) && in(thin, 1, 9999), -7);
            Rope r = behind(n);
            int k = 0;
            while (k < 20 && r.drawn(r.all(), pace).folded().least() >= thin) {
                k++;
            }
            return k;
        });
    }

    long judge(int n, int s, int off) {
        return told(() -> {
            needTest(n, s);
            need(in(off, 0, 9999), -7);
            Rope r = behind(n);
            for (int c = 0; c < 12; c++) {
                if (Math.abs(r.thick(c) - sheets[s][c]) > off) {
                    return c;
                }
            }
            return -1;
        });
    }

    long film(int n, int s) {
        return told(() -> {
            needSteps(n);
            need(in(s, 0, 3), -2);
            Rope r = behind(n);
            sorts[s] = 2;
            sheets[s] = new int[12];
            for (int c = 0; c < 12; c++) {
                sheets[s][c] = (int) r.thick(c);
            }
            return 12;
        });
    }

    private static long bits(int many, Predicate<Integer> has) {
        long bits = 0;
        for (int i = 0; i < many; i++) {
            if (has.test(i)) {
                bits += 1L << i;
            }
        }
        return bits;
    }

    long serves(int n, int s, int what) {
        return told(() -> {
            needTest(n, s);
            need(in(what, 0, 2), -7);
            return bits(10, v -> make(dough.withTaste(what, v), n, -1, null).isAs(sheets[s]));
        });
    }

    long which(int n, int s) {
        return told(() -> {
            needTest(n, s);
            return bits(texts.size(), t -> make(dough.withLaw(t), n, -1, null).isAs(sheets[s]));
        });
    }

    long fault(int n, int s) {
        return told(() -> {
            needTest(n, s);
            for (int left = 0; left < n; left++) {
                if (make(dough, n, left, null).isAs(sheets[s])) {
                    return left;
                }
            }
            return -1;
        });
    }

    long uneven(int n, int what) {
        return told(() -> {
            needSteps(n);
            need(in(what, 0, 1), -7);
            long is = behind(n).spread();
            long[] differs = new long[12];
            for (int c = 0; c < 12; c++) {
                int[] much = dough.much.clone();
                much[c] += much[c] / 10;
                differs[c] = Math.abs(make(dough.with(much), n, -1, null).spread() - is);
            }
            long most = Arrays.stream(differs).max().getAsLong();
            int first = 0;
            while (differs[first] != most) {
                first++;
            }
            return what == 0 ? first : most;
        });
    }

    long cooks(int n, int seconds, int what) {
        return told(() -> {
            needSteps(n);
            need(in(seconds, 0, 9999) && in(what, 0, 2), -7);
            return behind(n).cooked(seconds, what);
        });
    }

    /** Second by second. */
    long pot(int n) {
        return told(() -> {
            needSteps(n);
            Rope r = behind(n);
            long best = 0;
            long most = r.cooked(0, 1);
            for (long seconds = 1; seconds <= r.greatest(); seconds++) {
                long done = r.cooked(seconds, 1);
                if (done > most) {
                    most = done;
                    best = seconds;
                }
            }
            return best;
        });
    }

    private static int moved(int p, int k) {
        return k == 0 ? p : moved(p < 2048 ? 2 * p : 2 * (4095 - p) + 1, k - 1);
    }

    long place(int p, int k) {
        return told(() -> {
            need(in(p, 0, 4095) && in(k, 0, 64), -2);
            return moved(p, k);
        });
    }

    long apart(int p, int q, int k) {
        return told(() -> {
            need(in(p, 0, 4095) && in(q, 0, 4095) && in(k, 0, 64), -2);
            return Math.abs(moved(p, k) - moved(q, k));
        });
    }

    long parted(int p, int q, int far) {
        return told(() -> {
            need(in(p, 0, 4095) && in(q, 0, 4095) && in(far, 0, 4095), -2);
            for (int k = 0; k <= 64; k++) {
                if (apart(p, q, k) >= far) {
                    return k;
                }
            }
            return -1;
        });
    }

    long round(int p) {
        return told(() -> {
            need(in(p, 0, 4095), -2);
            for (int k = 1; k <= 64; k++) {
                if (moved(p, k) == p) {
                    return k;
                }
            }
            return -1;
        });
    }

    private static long coloured(int bits, int k, int c) {
        return k == 0 ? bits >> c & 1 : coloured(bits, k - 1, c / 2) + coloured(bits, k - 1, 15 - c / 2);
    }

    long colours(int bits, int k, int what) {
        return told(() -> {
            need(in(bits, 0, 65535) && in(k, 0, 10) && in(what, 0, 2), -2);
            long[] of = new long[16];
            for (int c = 0; c < 16; c++) {
                of[c] = coloured(bits, k, c);
            }
            long all = 1L << k;
            return what == 0 ? Arrays.stream(of).min().getAsLong()
                : what == 1 ? Arrays.stream(of).max().getAsLong()
                : Arrays.stream(of).filter(v -> v != 0 && v != all).count();
        });
    }

    private static long lowest(BigInteger above, BigInteger below, int part) {
        BigInteger by = above.gcd(below);
        return (part == 0 ? above : below).divide(by).longValueExact();
    }

    long thin(int thick, int k, int part) {
        return told(() -> {
            need(in(thick, 1, 999999) && in(k, 0, 30) && in(part, 0, 1), NO);
            return lowest(BigInteger.valueOf(thick), BigInteger.TWO.pow(k), part);
        });
    }

    long odds(int above, int below, int k, int part) {
        return told(() -> {
            need(in(below, 1, 30) && in(above, 0, below) && in(k, 0, 10) && in(part, 0, 1), NO);
            return lowest(BigInteger.valueOf(below - above).pow(k), BigInteger.valueOf(below).pow(k), part);
        });
    }

    long record(int above, int below, int sure) {
        return told(() -> {
            need(in(below, 1, 30) && in(above, 0, below) && in(sure, 0, 100), -2);
            for (int k = 10; k > 0; k--) {
                BigInteger has = BigInteger.valueOf(below - above).pow(k).multiply(BigInteger.valueOf(100));
                if (has.compareTo(BigInteger.valueOf(below).pow(k).multiply(BigInteger.valueOf(sure))) >= 0) {
                    return k;
                }
            }
            return 0;
        });
    }

    long drawn(int n, int c, int seed, int what) {
        return told(() -> {
            needSteps(n);
            need(in(c, 0, 11) && in(seed, 0, 99999) && in(what, 0, 1), -7);
            Rope r = make(dough, n, -1, new Lots(seed));
            return what == 0 ? r.thick(c) : r.spread();
        });
    }

    long image() {
        kept = dough;
        return steps.size();
    }

    long back() {
        return told(() -> {
            need(kept != null, -3);
            dough = kept;
            return steps.size();
        });
    }

    long sheet(int s, int sort, int n) {
        return told(() -> {
            need(in(s, 0, 3) && in(sort, -1, 2), -2);
            need(sort == -1 || n <= 40, -2);
            need(sort == -1 || n >= 0, -14);
            sorts[s] = sort;
            sheets[s] = sort == -1 ? null : new int[n];
            return 1;
        });
    }

    long cell(int s, int i, int v) {
        return told(() -> {
            need(in(s, 0, 3), -2);
            need(sheets[s] != null, -11);
            need(in(i, 0, sheets[s].length - 1), -12);
            sheets[s][i] = switch (sorts[s]) {
                case 0 -> (v & 255) >= 128 ? (v & 255) - 256 : v & 255;
                case 1 -> (v & 65535) >= 32768 ? (v & 65535) - 65536 : v & 65535;
                default -> v;
            };
            return 1;
        });
    }

    long copy(int s, int i, int other, int j, int n) {
        return told(() -> {
            need(in(s, 0, 3) && in(other, 0, 3), -2);
            need(sheets[s] != null && sheets[other] != null, -11);
            need(sorts[s] == sorts[other], -13);
            need(n >= 0 && i >= 0 && j >= 0, -12);
            need((long) i + n <= sheets[s].length && (long) j + n <= sheets[other].length, -12);
            int[] were = Arrays.copyOfRange(sheets[s], i, i + n);
            for (int k = 0; k < n; k++) {
                sheets[other][j + k] = were[k];
            }
            return n;
        });
    }

    long stepsBy(int s, int sort, int at, int n) {
        return told(() -> {
            need(in(s, 0, 3) && in(sort, 0, 2) && in(n, 0, 12), -2);
            need(sheets[s] != null, -11);
            need(sorts[s] == sort, -13);
            long came = 0;
            for (int k = 0; k < n; k++) {
                int i = at + 3 * k;
                need(i >= 0 && (long) i + 2 < sheets[s].length, -12);
                came += step(sheets[s][i], sheets[s][i + 1], sheets[s][i + 2]) >= 0 ? 1 : 0;
            }
            return came;
        });
    }

    long taken(int i, int kind) {
        return told(() -> {
            need(in(kind, 0, 6), -2);
            need(in(i, 0, 23), -12);
            need(i < 12 || i - 12 < steps.size(), -11);
            need(i < 12 == (kind == 6), -13);
            if (i < 12) {
                return dough.much[i];
            }
            List<List<Integer>> are = List.of(List.of(0), List.of(0, 1), List.of(0, 1, 2), List.of(0, 3),
                List.of(0, 4), List.of(0, 3, 5));
            need(are.get(steps.get(i - 12).kind).contains(kind), -13);
            return i - 12;
        });
    }

    // ---- reading a text

    private static final class Fault extends RuntimeException {
        private static final long serialVersionUID = 1;
        final int place;

        Fault(int place) {
            super(null, null, false, false);
            this.place = place;
        }
    }

    private record Token(String told, int place) {
        boolean isNumber() {
            return !told.isEmpty() && Character.isDigit(told.charAt(0));
        }
    }

    private static final class Reading {
        private static final List<String> KEYS = List.of("draw", "tears", "sticks", "or", "and", "not");
        private static final List<String> NAMES = List.of("wet", "thick", "stiff", "pace", "folds", "dust");
        private final List<Token> tokens = new ArrayList<>();
        private int next = 0;
        private int open = 0;

        Reading(List<Integer> tape) {
            StringBuilder all = new StringBuilder();
            for (int b : tape) {
                all.append((char) b);
            }
            int at = 0;
            while (at < all.length()) {
                int from = at;
                char c = all.charAt(at++);
                if (c == 32 || c == 10) {
                    continue;
                }
                String run = c >= 'a' && c <= 'z' ? "[a-z]" : c >= '0' && c <= '9' ? "[0-9]" : null;
                while (run != null && at < all.length() && all.substring(at, at + 1).matches(run)) {
                    at++;
                }
                String word = all.substring(from, at);
                boolean fine = run == null ? "();+-*<=".contains(word)
                    : run.equals("[0-9]") ? word.length() <= 4
                    : KEYS.contains(word) || NAMES.contains(word);
                tokens.add(new Token(fine ? word : "?", from));
            }
            tokens.add(new Token("", all.length()));
        }

        private boolean is(String told) {
            return tokens.get(next).told.equals(told);
        }

        private boolean took(String told) {
            if (is(told)) {
                next++;
                return true;
            }
            return false;
        }

        private void must(boolean as) {
            if (!as) {
                throw new Fault(tokens.get(next).place);
            }
        }

        Value[] read() {
            Value[] of = new Value[3];
            for (int i = 0; i < 3; i++) {
                must(took(KEYS.get(i)));
                of[i] = either();
                must(took(";"));
            }
            must(is(""));
            return of;
        }

        private Value either() {
            Value a = both();
            while (took("or")) {
                Value l = a;
                Value r = both();
                a = names -> l.of(names) != 0 | r.of(names) != 0 ? 1 : 0;
            }
            return a;
        }

        private Value both() {
            Value a = not();
            while (took("and")) {
                Value l = a;
                Value r = not();
                a = names -> l.of(names) != 0 & r.of(names) != 0 ? 1 : 0;
            }
            return a;
        }

        private Value not() {
            if (is("not")) {
                Value a = inside(this::not);
                return names -> a.of(names) == 0 ? 1 : 0;
            }
            Value l = sum();
            if (took("<")) {
                Value r = sum();
                return names -> l.of(names) < r.of(names) ? 1 : 0;
            }
            if (took("=")) {
                Value r = sum();
                return names -> l.of(names) == r.of(names) ? 1 : 0;
            }
            return l;
        }

        private Value sum() {
            Value a = term();
            while (is("+") || is("-")) {
                boolean plus = tokens.get(next++).told.equals("+");
                Value l = a;
                Value r = term();
                a = plus ? names -> l.of(names) + r.of(names) : names -> l.of(names) - r.of(names);
            }
            return a;
        }

        private Value term() {
            Value a = one();
            while (took("*")) {
                Value l = a;
                Value r = one();
                a = names -> l.of(names) * r.of(names);
            }
            return a;
        }

        private interface Part {
            Value read();
        }

        /** What stands behind the token that opens, which must be one of five at most. */
        private Value inside(Part part) {
            must(open < 5);
            next++;
            open++;
            Value a = part.read();
            open--;
            return a;
        }

        private Value one() {
            Token t = tokens.get(next);
            if (t.isNumber()) {
                next++;
                int number = Integer.parseInt(t.told);
                return names -> number;
            }
            if (NAMES.contains(t.told)) {
                next++;
                return names -> names.get(t.told);
            }
            if (is("-")) {
                Value a = inside(this::one);
                return names -> -a.of(names);
            }
            must(is("("));
            Value a = inside(this::either);
            must(took(")"));
            return a;
        }
    }
}
