import com.sun.source.tree.AssertTree;
import com.sun.source.tree.BinaryTree;
import com.sun.source.tree.BlockTree;
import com.sun.source.tree.ClassTree;
import com.sun.source.tree.CompilationUnitTree;
import com.sun.source.tree.CompoundAssignmentTree;
import com.sun.source.tree.DoWhileLoopTree;
import com.sun.source.tree.ForLoopTree;
import com.sun.source.tree.ImportTree;
import com.sun.source.tree.LambdaExpressionTree;
import com.sun.source.tree.MemberReferenceTree;
import com.sun.source.tree.MethodInvocationTree;
import com.sun.source.tree.MethodTree;
import com.sun.source.tree.NewArrayTree;
import com.sun.source.tree.NewClassTree;
import com.sun.source.tree.SynchronizedTree;
import com.sun.source.tree.ThrowTree;
import com.sun.source.tree.Tree;
import com.sun.source.tree.TryTree;
import com.sun.source.tree.VariableTree;
import com.sun.source.tree.WhileLoopTree;
import com.sun.source.util.JavacTask;
import com.sun.source.util.SourcePositions;
import com.sun.source.util.TreePath;
import com.sun.source.util.TreePathScanner;
import com.sun.source.util.Trees;
import java.nio.file.Files;
import java.nio.file.Path;
import java.util.HashMap;
import java.util.HashSet;
import java.util.List;
import java.util.Map;
import java.util.Set;
import java.util.TreeSet;
import javax.lang.model.element.Element;
import javax.lang.model.element.ExecutableElement;
import javax.lang.model.element.Modifier;
import javax.lang.model.type.TypeKind;
import javax.lang.model.type.TypeMirror;
import javax.tools.JavaCompiler;
import javax.tools.StandardJavaFileManager;
import javax.tools.ToolProvider;

/**
 * The rules of LANGUAGE.md, by the class's syntax tree; some are held more strictly than they are told, since the class
 * has no need of what they leave: no while, no recursion, nothing made by a call. Rule 7 can't be seen so: ModelTest
 * and EdgesTest call with all sorts of numbers.
 */
public final class LanguageTest {
    private static final Path MAIN = Path.of("src/main/java/LeftCrest.java");
    private static final int MOST_CLASSES = 12, MOST_FIELDS = 20, MOST_LINES = 60, MOST_PARAMETERS = 7, MOST_DEEP = 8;
    private static final Set<String> TYPES = Set.of("int", "long", "boolean", "int[]", "boolean[]", "java.lang.String");
    private static final Set<String> LIBRARY = Set.of("java.lang.System.arraycopy", "java.lang.String.length",
            "java.lang.String.charAt", "java.lang.Math.max", "java.lang.Math.min", "java.lang.Integer.bitCount",
            "java.lang.Object.<init>");

    public static void main(String[] args) throws Exception {
        signs(Files.readString(MAIN));
        JavaCompiler compiler = ToolProvider.getSystemJavaCompiler();
        try (StandardJavaFileManager files = compiler.getStandardFileManager(null, null, null)) {
            JavacTask task = (JavacTask) compiler.getTask(null, files, null, List.of("-proc:none"), null,
                    files.getJavaFileObjects(MAIN));
            CompilationUnitTree unit = task.parse().iterator().next();
            task.analyze();
            Reader reader = new Reader(unit, Trees.instance(task));
            reader.scan(unit, null);
            reader.end();
        }
        Check.end();
    }

    private static void signs(String source) {
        for (int i = 0; i < source.length(); i++) {
            char c = source.charAt(i);
            Check.holds("rule 4: a sign of 32 to 126, or a line's end, at " + i, c == '\n' || c >= 32 && c <= 126);
        }
    }

    private static final class Reader extends TreePathScanner<Void, Void> {
        private final CompilationUnitTree unit;
        private final Trees trees;
        private final Map<Element, Set<Element>> calls = new HashMap<>();
        private int classes = 0;

        Reader(CompilationUnitTree unit, Trees trees) {
            this.unit = unit;
            this.trees = trees;
        }

        private void rule(int number, String what, Tree at, boolean is) {
            long line = unit.getLineMap().getLineNumber(trees.getSourcePositions().getStartPosition(unit, at));
            Check.holds("rule " + number + ", line " + line + ": " + what, is);
        }

        private Void never(int number, String what, Tree at) {
            rule(number, "no " + what, at, false);
            return null;
        }

        @Override public Void visitCompilationUnit(CompilationUnitTree tree, Void none) {
            rule(1, "no package", tree, tree.getPackageName() == null);
            rule(1, "one class", tree, tree.getTypeDecls().size() == 1);
            return super.visitCompilationUnit(tree, none);
        }

        @Override public Void visitClass(ClassTree tree, Void none) {
            classes++;
            Tree around = getCurrentPath().getParentPath().getLeaf();
            boolean inside = around instanceof ClassTree;
            Set<Modifier> how = tree.getModifiers().getFlags();
            rule(2, "a class of the file or of a class", tree, inside || around == unit);
            rule(2, "private or package-visible and static", tree, !inside || how.contains(Modifier.STATIC)
                    && !how.contains(Modifier.PUBLIC) && !how.contains(Modifier.PROTECTED));
            int fields = 0;
            for (Tree member : tree.getMembers()) {
                if (member instanceof BlockTree) never(5, "initialiser block", member);
                if (!(member instanceof VariableTree field)) continue;
                if (field.getModifiers().getFlags().contains(Modifier.STATIC)) constant(field);
                else fields++;
            }
            rule(11, "some twenty fields at most", tree, fields <= MOST_FIELDS);
            return super.visitClass(tree, none);
        }

        private void constant(VariableTree field) {
            rule(5, "a static field is final", field, field.getModifiers().getFlags().contains(Modifier.FINAL));
            rule(5, "a static field is an int", field, field.getType().toString().equals("int"));
        }

        @Override public Void visitVariable(VariableTree tree, Void none) {
            TypeMirror type = trees.getTypeMirror(getCurrentPath());
            String name = String.valueOf(type);
            rule(3, "a type as told: " + name, tree, TYPES.contains(name) || name.matches("LeftCrest\\.\\w+(\\[\\])?"));
            return super.visitVariable(tree, none);
        }

        @Override public Void visitMethod(MethodTree tree, Void none) {
            SourcePositions at = trees.getSourcePositions();
            calls.putIfAbsent(trees.getElement(getCurrentPath()), new HashSet<>());
            long start = at.getStartPosition(unit, tree);
            if (start >= 0 && at.getEndPosition(unit, tree) > start) {
                long first = unit.getLineMap().getLineNumber(start);
                long last = unit.getLineMap().getLineNumber(at.getEndPosition(unit, tree));
                rule(11, "some sixty lines at most", tree, last - first < MOST_LINES);
            }
            rule(11, "seven parameters at most", tree, tree.getParameters().size() <= MOST_PARAMETERS);
            rule(6, "no throws", tree, tree.getThrows().isEmpty());
            return super.visitMethod(tree, none);
        }

        @Override public Void visitMethodInvocation(MethodInvocationTree tree, Void none) {
            Element called = trees.getElement(getCurrentPath());
            Element from = methodAround();
            String name = called.getEnclosingElement() + "." + called.getSimpleName();
            if (!name.startsWith("LeftCrest")) rule(4, "the library's " + name, tree, LIBRARY.contains(name));
            else if (from != null) calls.computeIfAbsent(from, key -> new HashSet<>()).add(called);
            return super.visitMethodInvocation(tree, none);
        }

        private Element methodAround() {
            for (TreePath path = getCurrentPath(); path != null; path = path.getParentPath()) {
                if (path.getLeaf() instanceof MethodTree) return trees.getElement(path);
            }
            return null;
        }

        @Override public Void visitNewClass(NewClassTree tree, Void none) {
            rule(2, "no anonymous class", tree, tree.getClassBody() == null);
            rule(12, "made in a field's initialiser", tree, methodAround() == null);
            rule(4, "an own class", tree, trees.getTypeMirror(getCurrentPath()).toString().startsWith("LeftCrest."));
            return super.visitNewClass(tree, none);
        }

        @Override public Void visitNewArray(NewArrayTree tree, Void none) {
            rule(12, "made in a field's initialiser", tree, methodAround() == null);
            return super.visitNewArray(tree, none);
        }

        @Override public Void visitBinary(BinaryTree tree, Void none) {
            boolean same = tree.getKind() == Tree.Kind.EQUAL_TO || tree.getKind() == Tree.Kind.NOT_EQUAL_TO;
            boolean plus = tree.getKind() == Tree.Kind.PLUS;
            for (Tree side : List.of(tree.getLeftOperand(), tree.getRightOperand())) {
                TypeMirror type = trees.getTypeMirror(new TreePath(getCurrentPath(), side));
                boolean object = type.getKind() == TypeKind.DECLARED;
                if (same) rule(6, "numbers are compared", tree, !object);
                if (plus) rule(10, "numbers are added", tree, !object);
            }
            return super.visitBinary(tree, none);
        }

        @Override public Void visitCompoundAssignment(CompoundAssignmentTree tree, Void none) {
            rule(10, "numbers are added", tree, trees.getTypeMirror(getCurrentPath()).getKind() != TypeKind.DECLARED);
            return super.visitCompoundAssignment(tree, none);
        }

        @Override public Void visitForLoop(ForLoopTree tree, Void none) {
            rule(9, "a bound and a step", tree, tree.getCondition() != null && tree.getUpdate().size() == 1);
            return super.visitForLoop(tree, none);
        }

        @Override public Void visitWhileLoop(WhileLoopTree tree, Void none) { return never(9, "while", tree); }

        @Override public Void visitDoWhileLoop(DoWhileLoopTree tree, Void none) { return never(9, "do", tree); }

        @Override public Void visitThrow(ThrowTree tree, Void none) { return never(6, "throw", tree); }

        @Override public Void visitTry(TryTree tree, Void none) { return never(6, "try", tree); }

        @Override public Void visitSynchronized(SynchronizedTree tree, Void none) { return never(6, "synchronized", tree); }

        @Override public Void visitAssert(AssertTree tree, Void none) { return never(6, "assert", tree); }

        @Override public Void visitImport(ImportTree tree, Void none) { return never(4, "import", tree); }

        @Override public Void visitLambdaExpression(LambdaExpressionTree tree, Void none) { return never(2, "lambda", tree); }

        @Override public Void visitMemberReference(MemberReferenceTree tree, Void none) {
            return never(2, "method reference", tree);
        }

        void end() {
            Check.holds("rule 11: some twelve classes at most: " + classes, classes <= MOST_CLASSES);
            Set<String> names = new TreeSet<>();
            for (Element method : calls.keySet()) {
                if (method.getModifiers().contains(Modifier.PUBLIC)) names.add(method.getSimpleName().toString());
            }
            for (Element method : calls.keySet()) {
                String name = method.getSimpleName().toString();
                boolean open = method.getModifiers().contains(Modifier.PUBLIC);
                Check.holds("rule 1: " + method + " bears no public name",
                        open || name.equals("<init>") || !names.contains(name));
                Check.holds("rules 8, 11: " + method + " goes " + MOST_DEEP + " deep at most", deep(method, 1) <= MOST_DEEP);
            }
        }

        /** How many methods stand open at once; recursion comes out as too deep. */
        private int deep(Element method, int level) {
            if (level > MOST_DEEP) return level;
            int most = level;
            for (Element called : calls.getOrDefault(method, Set.of())) {
                if (called instanceof ExecutableElement) most = Math.max(most, deep(called, level + 1));
            }
            return most;
        }
    }
}
