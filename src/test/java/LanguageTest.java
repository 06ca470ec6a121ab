import com.sun.source.tree.*;
import com.sun.source.util.JavacTask;
import com.sun.source.util.TreePathScanner;
import com.sun.source.util.Trees;
import java.io.File;
import java.util.ArrayList;
import java.util.HashMap;
import java.util.HashSet;
import java.util.List;
import java.util.Map;
import java.util.Set;
import java.util.TreeSet;
import javax.lang.model.element.Element;
import javax.lang.model.element.ElementKind;
import javax.lang.model.element.ExecutableElement;
import javax.lang.model.element.Modifier;
import javax.lang.model.element.TypeElement;
import javax.tools.JavaCompiler;
import javax.tools.StandardJavaFileManager;
import javax.tools.ToolProvider;

/** The rules of ../shared/LANGUAGE.md that a look at the source can tell. */
public final class LanguageTest {
    private static final String FILE = "src/main/java/PulledToAHair.java";
    private static final Set<String> LIBRARY = Set.of("String.length", "String.charAt", "String.isEmpty", "String.equals",
        "String.indexOf", "String.substring", "Math.max", "Math.min", "Math.abs", "System.arraycopy", "Object.<init>");
    private static final Set<Tree.Kind> FORBIDDEN = Set.of(Tree.Kind.THROW, Tree.Kind.TRY, Tree.Kind.CATCH,
        Tree.Kind.SYNCHRONIZED, Tree.Kind.ASSERT, Tree.Kind.LAMBDA_EXPRESSION, Tree.Kind.MEMBER_REFERENCE,
        Tree.Kind.FLOAT_LITERAL, Tree.Kind.DOUBLE_LITERAL, Tree.Kind.IMPORT, Tree.Kind.PACKAGE, Tree.Kind.ANNOTATION,
        Tree.Kind.SWITCH_EXPRESSION, Tree.Kind.YIELD);
    private static final Set<String> FACE = Set.of("roll", "set", "count", "feed", "text", "force", "step", "forget",
        "stepTold", "rope", "state", "whole", "stop", "worst", "window", "pace", "rest", "dust", "doublings", "judge",
        "film", "serves", "which", "fault", "uneven", "cooks", "pot", "place", "apart", "parted", "round", "colours",
        "thin", "odds", "record", "drawn", "image", "back", "sheet", "cell", "copy", "stepsBy", "taken");
    private static final Set<String> CONSTANTS = Set.of("NONE", "BAD", "STATE", "FULL", "NO");

    private static int wrong = 0;

    private LanguageTest() {
    }

    public static void main(String[] args) throws Exception {
        JavaCompiler compiler = ToolProvider.getSystemJavaCompiler();
        StandardJavaFileManager files = compiler.getStandardFileManager(null, null, null);
        JavacTask task = (JavacTask) compiler.getTask(null, files, null, List.of("-proc:none"), null,
            files.getJavaFileObjects(new File(FILE)));
        CompilationUnitTree unit = task.parse().iterator().next();
        task.analyze();
        Look look = new Look(unit, Trees.instance(task));
        look.scan(unit, null);
        look.depths();
        check(look.classes <= 12, "classes: " + look.classes);
        check(look.publicMethods.equals(new TreeSet<>(FACE)), "the face: " + look.publicMethods);
        check(look.publicFields.equals(new TreeSet<>(CONSTANTS)), "the constants: " + look.publicFields);
        System.out.println("LanguageTest: " + look.classes + " classes, calls " + look.deepest + " deep, " + wrong + " wrong");
        if (wrong != 0) {
            System.exit(1);
        }
    }

    private static void check(boolean fine, String what) {
        if (!fine) {
            wrong++;
            System.out.println("LanguageTest: " + what);
        }
    }

    private static final class Look extends TreePathScanner<Void, Void> {
        final CompilationUnitTree unit;
        final Trees trees;
        final Map<String, Set<String>> calls = new HashMap<>();
        final Set<String> publicMethods = new TreeSet<>();
        final Set<String> publicFields = new TreeSet<>();
        int classes = 0;
        int deepest = 0;
        private String method = "";

        Look(CompilationUnitTree unit, Trees trees) {
            this.unit = unit;
            this.trees = trees;
        }

        private Element element() {
            return trees.getElement(getCurrentPath());
        }

        private long line(Tree tree, boolean end) {
            long at = end ? trees.getSourcePositions().getEndPosition(unit, tree)
                : trees.getSourcePositions().getStartPosition(unit, tree);
            return unit.getLineMap().getLineNumber(at);
        }

        private String where(Tree tree) {
            return " in line " + line(tree, false);
        }

        @Override
        public Void scan(Tree tree, Void none) {
            if (tree != null) {
                check(!FORBIDDEN.contains(tree.getKind()), tree.getKind() + where(tree));
            }
            return super.scan(tree, none);
        }

        @Override
        public Void visitClass(ClassTree tree, Void none) {
            classes++;
            Set<Modifier> are = tree.getModifiers().getFlags();
            boolean outer = tree.getSimpleName().contentEquals("PulledToAHair");
            check(!tree.getSimpleName().toString().isEmpty(), "an anonymous class" + where(tree));
            check(are.contains(Modifier.FINAL), "a class that is not final" + where(tree));
            check(outer ? are.contains(Modifier.PUBLIC) : are.contains(Modifier.STATIC) && are.contains(Modifier.PRIVATE),
                "a class that is not static and private" + where(tree));
            int fields = 0;
            for (Tree member : tree.getMembers()) {
                if (member instanceof VariableTree field) {
                    Set<Modifier> flags = field.getModifiers().getFlags();
                    fields += flags.contains(Modifier.STATIC) ? 0 : 1;
                    check(!flags.contains(Modifier.STATIC) || flags.contains(Modifier.FINAL), "static state" + where(field));
                    check(!outer || flags.contains(Modifier.PRIVATE) || flags.contains(Modifier.PUBLIC),
                        "a field of the package" + where(field));
                    if (outer && flags.contains(Modifier.PUBLIC)) {
                        publicFields.add(field.getName().toString());
                    }
                }
                check(!(member instanceof BlockTree), "an initialiser block" + where(member));
            }
            check(fields <= 20, fields + " fields" + where(tree));
            return super.visitClass(tree, none);
        }

        @Override
        public Void visitMethod(MethodTree tree, Void none) {
            Element of = element();
            String type = of.getEnclosingElement().getSimpleName().toString();
            String name = tree.getName().toString();
            Set<Modifier> are = of.getModifiers();
            method = type + "." + name;
            calls.putIfAbsent(method, new HashSet<>());
            long lines = line(tree, true) - line(tree, false) + 1;
            check(lines <= 60, method + " has " + lines + " lines");
            check(tree.getParameters().size() <= 7, method + " has more than seven parameters");
            if (type.equals("PulledToAHair") && are.contains(Modifier.PUBLIC) && of.getKind() == ElementKind.METHOD) {
                check(publicMethods.add(name), name + " is there twice");
            } else {
                check(!FACE.contains(name), method + " bears a public method's name");
                check(are.contains(Modifier.PRIVATE) || !type.equals("PulledToAHair") || name.equals("<init>"),
                    method + " is not private");
            }
            super.visitMethod(tree, none);
            method = "";
            return null;
        }

        private void called(Element of, Tree tree) {
            if (!(of instanceof ExecutableElement)) {
                return;
            }
            TypeElement type = (TypeElement) of.getEnclosingElement();
            String name = type.getSimpleName() + "." + of.getSimpleName();
            if (type.getQualifiedName().toString().startsWith("java.")) {
                check(LIBRARY.contains(name), name + where(tree));
            } else if (!method.isEmpty()) {
                calls.get(method).add(name);
            }
        }

        @Override
        public Void visitMethodInvocation(MethodInvocationTree tree, Void none) {
            called(element(), tree);
            return super.visitMethodInvocation(tree, none);
        }

        @Override
        public Void visitNewClass(NewClassTree tree, Void none) {
            called(element(), tree);
            check(method.isEmpty() || method.equals("PulledToAHair.<init>"), "an object made by a call" + where(tree));
            return super.visitNewClass(tree, none);
        }

        @Override
        public Void visitNewArray(NewArrayTree tree, Void none) {
            check(method.isEmpty(), "an array made by a call" + where(tree));
            return super.visitNewArray(tree, none);
        }

        @Override
        public Void visitWhileLoop(WhileLoopTree tree, Void none) {
            check(false, "a loop without a counter" + where(tree));
            return super.visitWhileLoop(tree, none);
        }

        @Override
        public Void visitForLoop(ForLoopTree tree, Void none) {
            check(!tree.getInitializer().isEmpty() && tree.getCondition() != null && !tree.getUpdate().isEmpty(),
                "a loop without a counter" + where(tree));
            return super.visitForLoop(tree, none);
        }

        @Override
        public Void visitPrimitiveType(PrimitiveTypeTree tree, Void none) {
            String type = tree.getPrimitiveTypeKind().toString();
            check(!type.equals("DOUBLE") && !type.equals("FLOAT"), type + where(tree));
            return super.visitPrimitiveType(tree, none);
        }

        @Override
        public Void visitLiteral(LiteralTree tree, Void none) {
            if (tree.getValue() instanceof String text) {
                check(text.chars().allMatch(c -> c >= 1 && c <= 127), "a sign above 127" + where(tree));
            }
            return super.visitLiteral(tree, none);
        }

        @Override
        public Void visitBinary(BinaryTree tree, Void none) {
            boolean joins = trees.getTypeMirror(getCurrentPath()).toString().equals("java.lang.String");
            check(!joins, "texts joined by +" + where(tree));
            return super.visitBinary(tree, none);
        }

        /** How deep calls go at most; what is in a circle of calls (a recursion) counts once. */
        void depths() {
            Map<String, Set<String>> reach = new HashMap<>();
            for (String m : calls.keySet()) {
                Set<String> seen = new HashSet<>();
                List<String> open = new ArrayList<>(calls.get(m));
                while (!open.isEmpty()) {
                    String next = open.remove(open.size() - 1);
                    if (seen.add(next)) {
                        open.addAll(calls.getOrDefault(next, Set.of()));
                    }
                }
                reach.put(m, seen);
            }
            for (String m : calls.keySet()) {
                deepest = Math.max(deepest, depth(m, reach));
                check(!reach.get(m).contains(m) || m.startsWith("Reader.read"), m + " calls itself");
            }
            check(deepest <= 8, "calls go " + deepest + " deep");
        }

        private int depth(String from, Map<String, Set<String>> reach) {
            Set<String> circle = new HashSet<>(Set.of(from));
            for (String m : reach.get(from)) {
                if (reach.getOrDefault(m, Set.of()).contains(from)) {
                    circle.add(m);
                }
            }
            int below = 0;
            for (String in : circle) {
                for (String m : calls.getOrDefault(in, Set.of())) {
                    if (!circle.contains(m) && calls.containsKey(m)) {
                        below = Math.max(below, depth(m, reach));
                    }
                }
            }
            return below + 1;
        }
    }
}
