import com.sun.source.tree.*;
import com.sun.source.util.*;
import java.nio.file.Path;
import java.util.*;
import javax.lang.model.element.*;
import javax.tools.*;

/** What of ../shared/LANGUAGE.md can be seen in the source itself. */
public final class LanguageTest {
    private static final Path SOURCE = Path.of("src/main/java/ThanksByPost.java");
    private static final Set<String> LIBRARY = Set.of("System.arraycopy", "Arrays.fill", "Arrays.copyOf",
        "Arrays.copyOfRange", "Math.max", "Math.min", "Math.abs", "String.length", "String.charAt");
    private static final Set<Tree.Kind> BANNED = EnumSet.of(Tree.Kind.THROW, Tree.Kind.TRY, Tree.Kind.CATCH,
        Tree.Kind.SYNCHRONIZED, Tree.Kind.ASSERT, Tree.Kind.LAMBDA_EXPRESSION, Tree.Kind.MEMBER_REFERENCE,
        Tree.Kind.SWITCH_EXPRESSION, Tree.Kind.YIELD);

    private static CompilationUnitTree unit;
    private static Trees trees;
    private static final Map<ExecutableElement, Set<ExecutableElement>> calls = new LinkedHashMap<>();
    private static final Set<String> faceNames = new TreeSet<>();
    private static int classes = 0;

    public static void main(String[] args) throws Exception {
        JavaCompiler javac = ToolProvider.getSystemJavaCompiler();
        StandardJavaFileManager files = javac.getStandardFileManager(null, null, null);
        JavacTask task = (JavacTask) javac.getTask(null, files, null, List.of("-proc:none"), null,
            files.getJavaFileObjects(SOURCE));
        unit = task.parse().iterator().next();
        task.analyze();
        trees = Trees.instance(task);
        ClassTree outer = (ClassTree) unit.getTypeDecls().get(0);
        Checks.at("language");
        Checks.due("rule 1, classes in the file", 1, unit.getTypeDecls().size());
        Checks.yes("rule 1, no package", unit.getPackageName() == null);
        for (ImportTree i : unit.getImports()) {
            Checks.yes("rule 4, " + i, i.getQualifiedIdentifier().toString().matches("java\\.util\\.(Arrays|ArrayList|List|Iterator)"));
        }
        for (Tree m : outer.getMembers()) {
            if (m instanceof MethodTree t && t.getModifiers().getFlags().contains(Modifier.PUBLIC)) faceNames.add(t.getName().toString());
        }
        Checks.due("rule 1, the face's methods and the constructor", 40, faceNames.size());
        face(outer);
        signs();
        new Scan().scan(unit, null);
        Checks.yes("rule 11, some twelve classes: " + classes, classes <= 12);
        depths();
        Checks.end();
    }

    private static void signs() throws java.io.IOException {
        for (byte sign : java.nio.file.Files.readAllBytes(SOURCE)) {
            if (sign != 10 && (sign < 32 || sign > 126)) Checks.no("rule 4, a sign " + sign, true);
        }
    }

    private static void face(ClassTree outer) {
        for (Tree m : outer.getMembers()) {
            Set<Modifier> flags = m instanceof MethodTree t ? t.getModifiers().getFlags()
                : m instanceof VariableTree v ? v.getModifiers().getFlags() : ((ClassTree) m).getModifiers().getFlags();
            if (m instanceof VariableTree v) {
                Checks.yes("rule 1, " + v.getName(), flags.contains(Modifier.PRIVATE) || v.getName().contentEquals("NONE"));
            } else if (m instanceof MethodTree t) {
                Checks.yes("rule 1, " + t.getName(), flags.contains(Modifier.PRIVATE) || flags.contains(Modifier.PUBLIC));
            } else {
                Checks.yes("rule 2", flags.contains(Modifier.STATIC) && !flags.contains(Modifier.PUBLIC));
            }
        }
    }

    private static long line(Tree t) {
        return unit.getLineMap().getLineNumber(trees.getSourcePositions().getStartPosition(unit, t));
    }

    private static final class Scan extends TreePathScanner<Void, Void> {
        private ExecutableElement in;
        private int bodies = 0;

        @Override
        public Void scan(Tree t, Void v) {
            if (t != null && BANNED.contains(t.getKind())) Checks.no("rule 2 or 6, line " + line(t), true);
            return super.scan(t, v);
        }

        @Override
        public Void visitClass(ClassTree c, Void v) {
            classes++;
            Checks.due("rule 2, a class in a method, line " + line(c), 0, bodies);
            long fields = c.getMembers().stream().filter(m -> m instanceof VariableTree f
                && !f.getModifiers().getFlags().contains(Modifier.STATIC)).count();
            Checks.yes("rule 11, some twenty fields in " + c.getSimpleName() + ": " + fields, fields <= 20);
            return super.visitClass(c, v);
        }

        @Override
        public Void visitMethod(MethodTree m, Void v) {
            long end = unit.getLineMap().getLineNumber(trees.getSourcePositions().getEndPosition(unit, m));
            Checks.yes("rule 11, lines of " + m.getName() + ": " + (end - line(m) + 1), end - line(m) + 1 <= 60);
            Checks.yes("rule 11, parameters of " + m.getName(), m.getParameters().size() <= 7);
            boolean shown = m.getModifiers().getFlags().contains(Modifier.PUBLIC);
            boolean made = m.getName().contentEquals("<init>");
            Checks.yes("rule 1, name of " + m.getName(), shown || made || !faceNames.contains(m.getName().toString()));
            in = (ExecutableElement) trees.getElement(getCurrentPath());
            calls.putIfAbsent(in, new LinkedHashSet<>());
            bodies++;
            super.visitMethod(m, v);
            bodies--;
            return null;
        }

        @Override
        public Void visitVariable(VariableTree f, Void v) {
            Set<Modifier> flags = f.getModifiers().getFlags();
            if (flags.contains(Modifier.STATIC)) {
                VariableElement field = (VariableElement) trees.getElement(getCurrentPath());
                Checks.yes("rule 5, " + f.getName(), flags.contains(Modifier.FINAL) && field.getConstantValue() != null);
            }
            String type = f.getType() == null ? "" : f.getType().toString();
            Checks.yes("rule 3, " + f, type.matches("(int|long|boolean)(\\[\\])?|int\\[\\]\\[\\]|String|[A-Z][a-z]+(\\[\\])?"));
            return super.visitVariable(f, v);
        }

        @Override
        public Void visitBlock(BlockTree b, Void v) {
            Checks.no("rule 5, a block of a class, line " + line(b), getCurrentPath().getParentPath().getLeaf() instanceof ClassTree);
            return super.visitBlock(b, v);
        }

        @Override
        public Void visitForLoop(ForLoopTree f, Void v) {
            Checks.yes("rule 9, line " + line(f), f.getCondition() instanceof BinaryTree && f.getUpdate().size() == 1);
            return super.visitForLoop(f, v);
        }

        @Override
        public Void visitWhileLoop(WhileLoopTree w, Void v) {
            Tree asked = ((ParenthesizedTree) w.getCondition()).getExpression();
            Checks.yes("rule 9, line " + line(w), asked instanceof BinaryTree);
            return super.visitWhileLoop(w, v);
        }

        @Override
        public Void visitBinary(BinaryTree b, Void v) {
            for (ExpressionTree side : List.of(b.getLeftOperand(), b.getRightOperand())) {
                TreePath path = new TreePath(getCurrentPath(), side);
                Checks.no("rule 6, line " + line(b), String.valueOf(trees.getTypeMirror(path)).equals("java.lang.String"));
            }
            return super.visitBinary(b, v);
        }

        @Override
        public Void visitMethodInvocation(MethodInvocationTree call, Void v) {
            called(trees.getElement(new TreePath(getCurrentPath(), call.getMethodSelect())), call);
            return super.visitMethodInvocation(call, v);
        }

        @Override
        public Void visitNewClass(NewClassTree made, Void v) {
            Checks.yes("rule 2, line " + line(made), made.getClassBody() == null);
            called(trees.getElement(getCurrentPath()), made);
            return super.visitNewClass(made, v);
        }

        private void called(Element to, Tree at) {
            if (!(to instanceof ExecutableElement e) || e.getSimpleName().contentEquals("<init>") && in == null) return;
            String owner = e.getEnclosingElement().toString();
            if (owner.startsWith("java.")) {
                String name = e.getEnclosingElement().getSimpleName() + "." + e.getSimpleName();
                Checks.yes("rule 4, line " + line(at) + ": " + name, LIBRARY.contains(name) || name.equals("Object.<init>"));
            } else if (in != null) {
                calls.get(in).add(e);
            }
        }
    }

    /** Calls that call one another again count as one; what else stands open at once is at most eight. */
    private static void depths() {
        Map<ExecutableElement, Set<ExecutableElement>> reach = new HashMap<>();
        for (ExecutableElement m : calls.keySet()) {
            Set<ExecutableElement> seen = new LinkedHashSet<>();
            Deque<ExecutableElement> open = new ArrayDeque<>(List.of(m));
            while (!open.isEmpty()) {
                for (ExecutableElement to : calls.getOrDefault(open.pop(), Set.of())) if (seen.add(to)) open.push(to);
            }
            reach.put(m, seen);
        }
        Map<ExecutableElement, Integer> depth = new HashMap<>();
        for (ExecutableElement m : calls.keySet()) {
            int deep = depth(m, reach, depth);
            Checks.yes("rule 11, calls below " + m + ": " + deep, deep <= 8);
        }
        for (ExecutableElement m : calls.keySet()) {
            if (reach.get(m).contains(m)) {
                Checks.yes("rule 8, recursion of " + m, m.getModifiers().contains(Modifier.PRIVATE));
            }
        }
    }

    private static int depth(ExecutableElement m, Map<ExecutableElement, Set<ExecutableElement>> reach,
            Map<ExecutableElement, Integer> known) {
        if (known.containsKey(m)) return known.get(m);
        Set<ExecutableElement> ring = new LinkedHashSet<>(List.of(m));
        for (ExecutableElement o : reach.getOrDefault(m, Set.of())) {
            if (reach.getOrDefault(o, Set.of()).contains(m)) ring.add(o);
        }
        int below = 0;
        for (ExecutableElement r : ring) {
            for (ExecutableElement to : calls.getOrDefault(r, Set.of())) {
                if (!ring.contains(to)) below = Math.max(below, depth(to, reach, known));
            }
        }
        for (ExecutableElement r : ring) known.put(r, below + 1);
        return below + 1;
    }
}
