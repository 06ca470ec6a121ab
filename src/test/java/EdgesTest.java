import java.io.IOException;
import java.lang.reflect.InvocationTargetException;
import java.lang.reflect.Method;
import java.util.Arrays;
import java.util.Comparator;

/**
 * Runs each test of a sentence that names an edge (every method with an Edge), on a new object.
 * The sentence must stand in the document as it is quoted, and nothing of the document may be left out:
 * what names no edge is told in NO_EDGE.
 */
public final class EdgesTest {
    private static final Class<?>[] TOLD = {
        EdgesOfDough.class, EdgesOfKinds.class, EdgesOfTexts.class, EdgesOfTerms.class, EdgesOfSteps.class,
        EdgesOfRope.class, EdgesOfHow.class, EdgesOfShowing.class, EdgesOfExact.class, EdgesOfHost.class,
    };
    private static final String[][] NO_EDGE = {
        {"THE DOUGH", "1 THE DOUGH, as it is rolled at first:"}, {"DRAWN", "DRAWN by x at a PACE:"},
        {"KINDS", "0 STEP:"}, {"KINDS", "1 PULL (a STEP):"}, {"KINDS", "4 DUST (a STEP):"}, {"FAULT", "FAULT:"},
        {"MORE EVEN", "2 MORE EVEN is a ROPE than another one,"}, {"DRAWN BY LOT", "DRAWN BY LOT,"},
        {"SHEETS", "The host's:"}, {"Promise 18", ", behind which,"}, {"Promise 19", "by which,"},
    };

    private final Due due = new Due("EdgesTest");
    /** null where only the program and the shared tests have been put beside this folder. */
    private final Document document = Document.isThere() ? new Document() : null;
    private int tests = 0;

    private EdgesTest() throws IOException {
    }

    public static void main(String[] args) throws IOException, IllegalAccessException, InvocationTargetException {
        EdgesTest all = new EdgesTest();
        for (Class<?> told : TOLD) {
            all.run(told);
        }
        if (all.document != null) {
            all.nothingIsLeft();
        }
        System.out.println("EdgesTest: " + all.tests + " tests of sentences that name an edge"
            + (all.document == null ? ", not compared with the document, which is not there" : ""));
        all.due.end();
    }

    private void run(Class<?> told) throws IllegalAccessException, InvocationTargetException {
        Method[] methods = told.getDeclaredMethods();
        Arrays.sort(methods, Comparator.comparing(Method::getName));
        for (Method method : methods) {
            Edge edge = method.getAnnotation(Edge.class);
            if (edge != null) {
                run(method, edge);
            }
        }
    }

    private void run(Method method, Edge edge) throws IllegalAccessException, InvocationTargetException {
        String name = edge.of() + ", \"" + edge.says() + "\" (" + method.getName() + ")";
        due.fresh(name);
        if (document != null) {
            due.same("the sentence stands there", document.quote(edge.of(), edge.says()) ? 1 : 0, 1);
        }
        int before = due.asked();
        method.invoke(null, due);
        due.same("something is asked", due.asked() > before ? 1 : 0, 1);
        tests++;
        if (Boolean.getBoolean("names")) {
            System.out.println(name);
        }
    }

    private void nothingIsLeft() {
        for (String[] none : NO_EDGE) {
            due.fresh("no edge of " + none[0]);
            due.same(none[1], document.quote(none[0], none[1]) ? 1 : 0, 1);
        }
        due.fresh("the document");
        for (String left : document.left()) {
            due.same("a test of \"" + left + "\"", 0, 1);
        }
    }
}
