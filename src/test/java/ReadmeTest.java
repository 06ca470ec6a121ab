import java.io.IOException;
import java.lang.reflect.Method;
import java.lang.reflect.Modifier;
import java.net.URL;
import java.net.URLClassLoader;
import java.nio.file.Files;
import java.nio.file.Path;
import java.util.ArrayList;
import java.util.Comparator;
import java.util.List;
import java.util.regex.Matcher;
import java.util.regex.Pattern;
import java.util.stream.Stream;
import javax.tools.ToolProvider;

/**
 * The examples in README.md, compiled as they stand there: each call answers the number at its line's end.
 * The table of calls tells of each call once.
 */
public final class ReadmeTest {
    private static final Path PLACE = Path.of("README.md");
    /** A call, perhaps kept in a variable, and the answer that is said to come. */
    private static final Pattern TOLD = Pattern.compile("(?:int (\\w) = )?(x\\.\\w+\\(.*\\));\\s*// (-?\\d+)(?:$|:.*)");

    private static final Due due = new Due("ReadmeTest");

    private ReadmeTest() {
    }

    public static void main(String[] args) throws Exception {
        List<String> lines = Files.readAllLines(PLACE);
        examples(lines);
        table(lines);
        due.end();
    }

    private static void examples(List<String> lines) throws Exception {
        due.fresh("examples");
        List<String> calls = new ArrayList<>();
        List<Long> wants = new ArrayList<>();
        String program = program(lines, calls, wants);
        long[] answers = answers(program, calls.size());
        for (int i = 0; i < answers.length; i++) {
            due.same(calls.get(i), answers[i], wants.get(i));
        }
        due.same("there are examples", calls.isEmpty() ? 0 : 1, 1);
    }

    /** Each block is a method of its own, since each begins with its own x. */
    private static String program(List<String> lines, List<String> calls, List<Long> wants) {
        StringBuilder all = new StringBuilder("public final class Example {\n");
        StringBuilder run = new StringBuilder("public static void run(long[] told) {\n");
        boolean inside = false;
        int blocks = 0;
        for (String line : lines) {
            if (line.equals("```java")) {
                inside = true;
                all.append("static void block").append(blocks).append("(long[] told) {\n");
                run.append("block").append(blocks).append("(told);\n");
                blocks++;
            } else if (inside && line.equals("```")) {
                inside = false;
                all.append("}\n");
            } else if (inside) {
                all.append(told(line, calls, wants)).append('\n');
            }
        }
        return all.append(run).append("}\n}\n").toString();
    }

    private static String told(String line, List<String> calls, List<Long> wants) {
        Matcher found = TOLD.matcher(line);
        if (!found.matches()) {
            due.same("the answer is told as a number at the end of: " + line, line.contains("//") ? 1 : 0, 0);
            return line;
        }
        String answer = "told[" + calls.size() + "] = " + found.group(2) + ";";
        calls.add(found.group(2));
        wants.add(Long.parseLong(found.group(3)));
        String kept = found.group(1);
        return kept == null ? answer : answer + " int " + kept + " = (int) told[" + (calls.size() - 1) + "];";
    }

    private static long[] answers(String program, int many) throws Exception {
        Path folder = Files.createTempDirectory("readme");
        try {
            Path file = Files.writeString(folder.resolve("Example.java"), program);
            int code = ToolProvider.getSystemJavaCompiler().run(null, null, null, "-proc:none",
                "-cp", System.getProperty("java.class.path"), "-d", folder.toString(), file.toString());
            due.same("the examples compile", code, 0);
            long[] told = new long[many];
            if (code == 0) {
                try (URLClassLoader loader = new URLClassLoader(new URL[] {folder.toUri().toURL()})) {
                    loader.loadClass("Example").getMethod("run", long[].class).invoke(null, (Object) told);
                }
            }
            return told;
        } finally {
            clear(folder);
        }
    }

    private static void clear(Path folder) throws IOException {
        List<Path> all;
        try (Stream<Path> inside = Files.walk(folder)) {
            all = inside.sorted(Comparator.reverseOrder()).toList();
        }
        for (Path one : all) {
            Files.delete(one);
        }
    }

    private static void table(List<String> lines) {
        due.fresh("the table of calls");
        StringBuilder first = new StringBuilder();
        boolean inside = false;
        for (String line : lines) {
            inside = line.startsWith("#") ? line.equals("### The calls") : inside;
            if (inside && line.startsWith("| `")) {
                first.append(line, 1, line.indexOf('|', 1));
            }
        }
        for (Method method : PulledToAHair.class.getDeclaredMethods()) {
            if (Modifier.isPublic(method.getModifiers())) {
                String name = "`" + method.getName() + "`";
                due.same(name, first.indexOf(name) >= 0 && first.indexOf(name) == first.lastIndexOf(name) ? 1 : 0, 1);
            }
        }
    }
}
