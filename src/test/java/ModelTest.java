import java.util.ArrayList;
import java.util.List;
import java.util.Map;
import java.util.Random;
import java.util.TreeMap;

/** Runs of calls by seeds, on the program and on the model side by side: all answers are alike. */
public final class ModelTest {
    private static final int RUNS = Integer.getInteger("runs", 4000);
    private static final int CALLS = 90;

    private final Random random;
    private final PulledToAHair program = new PulledToAHair();
    private final Model model = new Model();
    private final List<String> run = new ArrayList<>();
    private final Map<String, Integer> counts;

    private ModelTest(long seed, Map<String, Integer> counts) {
        random = new Random(seed);
        this.counts = counts;
    }

    public static void main(String[] args) {
        Map<String, Integer> counts = new TreeMap<>();
        for (int seed = 0; seed < RUNS; seed++) {
            new ModelTest(seed, counts).go(seed);
        }
        System.out.println("ModelTest: " + RUNS + " runs, all alike; answers that are no refusal: " + counts);
        for (String[] call : CALLS_AND_ARGS) {
            if (counts.getOrDefault(call[0], 0) == 0) {
                System.out.println("ModelTest: " + call[0] + " was never answered but by a refusal");
                System.exit(1);
            }
        }
    }

    private void go(int seed) {
        for (int i = 0; i < CALLS; i++) {
            doing();
        }
        System.out.flush();
    }

    /** What an argument may be: n STEPS, c CELL, s SHEET, ..: see number(). */
    private static final String[][] CALLS_AND_ARGS = {
        {"roll", "0:11 what1 roll"}, {"set", "0:2 0:9"}, {"count", "0:6"}, {"text", ""}, {"force", "0:5"},
        {"feed", "0:255 1:8"}, {"step", "0:5 0:9 1:9"}, {"forget", ""}, {"stepTold", "n 0:3"},
        {"rope", "n 0:11 0:2"}, {"state", "n 0:7"}, {"whole", "n 0:2"}, {"stop", "0:100"}, {"worst", ""},
        {"window", "n 0:9"}, {"pace", "n 0:9 0:1"}, {"rest", "n 1:99 0:100"}, {"dust", "n 0:100"},
        {"doublings", "n 1:9 thin"}, {"judge", "n 0:3 off"}, {"film", "n 0:3"}, {"serves", "n 0:3 0:2"},
        {"which", "n 0:3"}, {"fault", "n 0:3"}, {"uneven", "n 0:1"}, {"cooks", "n seconds 0:2"}, {"pot", "n"},
        {"place", "0:4095 0:64"}, {"apart", "0:4095 0:4095 0:64"}, {"parted", "0:4095 0:4095 0:4095"},
        {"round", "0:4095"}, {"colours", "0:65535 0:10 0:2"}, {"thin", "1:999999 0:30 0:1"},
        {"odds", "0:30 1:30 0:10 0:1"}, {"record", "0:30 1:30 0:100"}, {"drawn", "n 0:11 0:99999 0:1"},
        {"image", ""}, {"back", ""}, {"sheet", "0:3 -1:2 size"}, {"cell", "0:3 0:39 value"},
        {"copy", "0:3 0:12 0:3 0:12 0:12"}, {"stepsBy", "0:3 0:2 0:39 0:12"}, {"taken", "0:23 0:6"},
    };

    private void doing() {
        int which = random.nextInt(12);
        if (which == 0) {
            newText();
        } else if (which < 3) {
            both("step(" + random.nextInt(6) + ", " + random.nextInt(10) + ", " + (1 + random.nextInt(9)) + ")");
        } else if (which == 3) {
            fullTest();
        } else if (which == 4) {
            stepsBySheet();
        } else {
            anyCall();
        }
    }

    private void anyCall() {
        String[] call = CALLS_AND_ARGS[random.nextInt(CALLS_AND_ARGS.length)];
        StringBuilder told = new StringBuilder(call[0]).append('(');
        String[] args = call[1].isEmpty() ? new String[0] : call[1].split(" ");
        for (int i = 0; i < args.length; i++) {
            told.append(i == 0 ? "" : ", ").append(number(args[i]));
        }
        both(told.append(')').toString());
    }

    private long number(String what) {
        if (random.nextInt(25) == 0) {
            int[] odd = {-1, -2, 0, 1, 6, 10, 12, 40, 41, 64, 65, 100, 4096, 65536, 100000, 1000000,
                Integer.MAX_VALUE, Integer.MIN_VALUE, Integer.MAX_VALUE - 1};
            return odd[random.nextInt(odd.length)];
        }
        switch (what) {
            case "n": return (int) (Math.sqrt(random.nextDouble()) * (program.count(3) + 1));
            case "what1": return random.nextInt(2);
            case "roll": return random.nextInt(3) == 0 ? 1 + random.nextInt(99999) : 1 + random.nextInt(999);
            case "thin": return random.nextBoolean() ? 1 + random.nextInt(60) : 1 + random.nextInt(9999);
            case "off": return random.nextBoolean() ? random.nextInt(3) : random.nextInt(10000);
            case "seconds": return random.nextInt(1000);
            case "size": return random.nextBoolean() ? 12 : random.nextInt(41);
            case "value": return random.nextBoolean() ? random.nextInt(10) : random.nextInt();
            default:
                String[] ends = what.split(":");
                int least = Integer.parseInt(ends[0]);
                return least + random.nextInt(Integer.parseInt(ends[1]) - least + 1);
        }
    }

    /** A test that tells what some rope truly was, so that some of the questions find something. */
    private void fullTest() {
        int s = random.nextInt(4);
        long n = number("n");
        switch (random.nextInt(4)) {
            case 0:
                both("film(" + n + ", " + s + ")");
                both("step(" + random.nextInt(6) + ", " + random.nextInt(3) + ", 1)");
                break;
            case 1:
                both("set(" + random.nextInt(3) + ", " + random.nextInt(10) + ")");
                both("film(" + n + ", " + s + ")");
                both("set(" + random.nextInt(3) + ", " + random.nextInt(10) + ")");
                break;
            case 2:
                both("film(" + n + ", " + s + ")");
                both("force(" + random.nextInt(6) + ")");
                break;
            default:
                both("film(" + n + ", " + s + ")");
                both("cell(" + s + ", " + random.nextInt(12) + ", " + random.nextInt(700) + ")");
        }
        n = number("n");
        both("fault(" + n + ", " + s + ")");
        both("which(" + n + ", " + s + ")");
        both("serves(" + n + ", " + s + ", " + random.nextInt(3) + ")");
        both("judge(" + n + ", " + s + ", " + random.nextInt(30) + ")");
    }

    private void stepsBySheet() {
        int s = random.nextInt(4);
        int sort = random.nextInt(3);
        both("sheet(" + s + ", " + sort + ", " + random.nextInt(41) + ")");
        for (int i = 0; i < 12; i++) {
            both("cell(" + s + ", " + i + ", " + (1 + random.nextInt(random.nextInt(8) == 0 ? 9 : 5)) + ")");
        }
        both("stepsBy(" + s + ", " + sort + ", " + random.nextInt(12) + ", " + random.nextInt(5) + ")");
        both("forget()");
    }

    private void newText() {
        StringBuilder text = new StringBuilder();
        text.append("draw").append(gap()).append(either(0)).append(gap()).append(';').append("tears ");
        text.append(random.nextBoolean() ? "thick < " + random.nextInt(600) : either(0));
        text.append(" ;sticks ").append(random.nextBoolean() ? "folds * 3 - dust" : either(0)).append(';').append(gap());
        for (int i = random.nextInt(4) == 0 ? 1 + random.nextInt(2) : 0; i > 0; i--) {
            int at = random.nextInt(text.length() + 1);
            switch (random.nextInt(3)) {
                case 0: text.delete(at, at + 1); break;
                case 1: text.insert(at, "(-;9az =\t\u00e9".charAt(random.nextInt(10))); break;
                default: text.setLength(at);
            }
        }
        if (text.length() > 160) {
            text.setLength(160);
        }
        String fed = text.toString();
        Due.tape(program, fed);
        Due.tape(model, fed);
        run.add("tape of \"" + fed + "\"");
        both("text()");
        both("force(" + random.nextInt(6) + ")");
    }

    private String gap() {
        return new String[] {" ", "\n", "  ", " \n "}[random.nextInt(4)];
    }

    private String either(int deep) {
        return joined(deep, random.nextInt(8) == 0 ? 1 : 0, " or ");
    }

    private String joined(int deep, int more, String by) {
        StringBuilder all = new StringBuilder(both(deep));
        for (int i = 0; i < more; i++) {
            all.append(by).append(both(deep));
        }
        return all.toString();
    }

    private String both(int deep) {
        return random.nextInt(8) == 0 ? not(deep) + " and " + not(deep) : not(deep);
    }

    private String not(int deep) {
        if (random.nextInt(10) == 0) {
            return "not " + not(deep + 1);
        }
        return random.nextInt(6) == 0 ? sum(deep) + (random.nextBoolean() ? "<" : "=") + sum(deep) : sum(deep);
    }

    private String sum(int deep) {
        return random.nextInt(3) > 0 ? term(deep) + (random.nextBoolean() ? "+" : "-") + term(deep) : term(deep);
    }

    private String term(int deep) {
        return random.nextInt(4) == 0 ? one(deep) + "*" + one(deep) : one(deep);
    }

    private String one(int deep) {
        switch (random.nextInt(deep > 6 ? 4 : 6)) {
            case 0: return "" + random.nextInt(random.nextBoolean() ? 30 : 10000);
            case 1: case 2: case 3:
                return new String[] {"wet", "thick", "stiff", "pace", "folds", "dust"}[random.nextInt(6)];
            case 4: return "-" + one(deep + 1);
            default: return "(" + either(deep + 1) + ")";
        }
    }

    private void both(String call) {
        run.add(call);
        long got = Due.answer(program, call);
        long want = Due.answer(model, call);
        if (got != want) {
            for (String earlier : run) {
                System.out.println(earlier);
            }
            System.out.println("ModelTest: the last one answered " + got + ", by the model " + want);
            System.exit(1);
        }
        if (got >= 0) {
            counts.merge(call.substring(0, call.indexOf('(')), 1, Integer::sum);
        }
    }
}
