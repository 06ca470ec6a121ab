import java.lang.reflect.InvocationTargetException;
import java.lang.reflect.Method;
import java.nio.charset.StandardCharsets;
import java.util.ArrayList;
import java.util.List;

/** Calls told as texts, such as "rope(0, 1, 2)", on an object, and how many did not answer what is due. */
final class Due {
    /** The document promises nothing of an object behind so many calls. */
    private static final int MOST_CALLS = 512;

    private final String test;
    private Object object;
    private int calls = 0;
    private String part = "";
    private int asked = 0;
    private int wrong = 0;

    Due(String test) {
        this.test = test;
    }

    /** What follows is about this part, on a new object. */
    void fresh(String newPart) {
        part = newPart;
        again();
    }

    /** The same part, on a new object. */
    void again() {
        object = new PulledToAHair();
        calls = 0;
    }

    void is(String call, long want) {
        same(call, ask(call), want);
    }

    long ask(String call) {
        calls++;
        if (calls == MOST_CALLS + 1) {
            same("calls on one object", calls, MOST_CALLS);
        }
        return answer(object, call);
    }

    int asked() {
        return asked;
    }

    void same(String call, long got, long want) {
        asked++;
        if (got != want) {
            wrong++;
            System.out.println(test + ", " + part + ": " + call + " answered " + got + ", due is " + want);
        }
    }

    void tape(String text) {
        for (String call : feeds(text)) {
            ask(call);
        }
    }

    /** The tape is these bytes and is read: text() is to answer this. */
    void text(String text, long want) {
        tape(text);
        same("text() of \"" + text + "\"", ask("text()"), want);
    }

    /** A text that is fine is made and becomes the law. */
    void law(String draw, String tears, String sticks) {
        tape("draw " + draw + " ; tears " + tears + " ; sticks " + sticks + " ;");
        long number = ask("text()");
        same("the text is fine", number >= 0 ? 1 : 0, 1);
        ask("force(" + number + ")");
    }

    /** Steps come behind those that are there, each told as "KIND, MORE, PACE". */
    void steps(String... told) {
        for (String step : told) {
            is("step(" + step + ")", ask("count(3)"));
        }
    }

    /** What 0 MUCH, 1 LENGTH of all cells becomes v, as it is rolled. */
    void rollAll(int what, int v) {
        for (int c = 0; c < 12; c++) {
            ask("roll(" + c + ", " + what + ", " + v + ")");
        }
    }

    /** What 0 THICK, 1 LENGTH, 2 STIFF of cells 0, 1, .. is behind n steps. */
    void row(int n, int what, long... wants) {
        for (int c = 0; c < wants.length; c++) {
            is("rope(" + n + ", " + c + ", " + what + ")", wants[c]);
        }
    }

    /** What 0 THICK, 1 LENGTH, 2 STIFF is of all cells alike. */
    void all(int n, int what, long want) {
        for (int c = 0; c < 12; c++) {
            is("rope(" + n + ", " + c + ", " + what + ")", want);
        }
    }

    void sheetTells(int s, int... numbers) {
        is("sheet(" + s + ", 2, " + numbers.length + ")", 1);
        for (int i = 0; i < numbers.length; i++) {
            is("cell(" + s + ", " + i + ", " + numbers[i] + ")", 1);
        }
    }

    /** Ends the test: exit code 1 if anything was wrong. */
    void end() {
        System.out.println(test + ": " + asked + " answers, " + wrong + " not as due");
        if (wrong != 0 || asked == 0) {
            System.exit(1);
        }
    }

    static void tape(Object on, String text) {
        for (String call : feeds(text)) {
            answer(on, call);
        }
    }

    /** The calls that put a text behind the tape, eight bytes at once. */
    private static List<String> feeds(String text) {
        byte[] bytes = text.getBytes(StandardCharsets.ISO_8859_1);
        List<String> calls = new ArrayList<>();
        for (int from = 0; from < bytes.length; from += 8) {
            int n = Math.min(8, bytes.length - from);
            long w = 0;
            for (int i = 0; i < n; i++) {
                w = w << 8 | bytes[from + i] & 255;
            }
            calls.add("feed(" + w + ", " + n + ")");
        }
        return calls;
    }

    static long answer(Object on, String call) {
        int open = call.indexOf('(');
        String inside = call.substring(open + 1, call.length() - 1).trim();
        String[] args = inside.isEmpty() ? new String[0] : inside.split(",");
        Method method = named(on.getClass(), call.substring(0, open));
        Object[] values = new Object[args.length];
        for (int i = 0; i < args.length; i++) {
            long v = Long.parseLong(args[i].trim());
            if (method.getParameterTypes()[i] == int.class) {
                values[i] = Math.toIntExact(v);
            } else {
                values[i] = v;
            }
        }
        try {
            return ((Number) method.invoke(on, values)).longValue();
        } catch (InvocationTargetException e) {
            throw new IllegalStateException(call + " threw", e.getCause());
        } catch (IllegalAccessException e) {
            throw new IllegalStateException(call, e);
        }
    }

    private static Method named(Class<?> type, String name) {
        for (Method m : type.getDeclaredMethods()) {
            if (m.getName().equals(name)) {
                return m;
            }
        }
        throw new IllegalStateException("no method " + name);
    }
}
