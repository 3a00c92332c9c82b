import com.sun.source.tree.AssertTree;
import com.sun.source.tree.AssignmentTree;
import com.sun.source.tree.BinaryTree;
import com.sun.source.tree.BlockTree;
import com.sun.source.tree.ClassTree;
import com.sun.source.tree.CompilationUnitTree;
import com.sun.source.tree.CompoundAssignmentTree;
import com.sun.source.tree.DoWhileLoopTree;
import com.sun.source.tree.ExpressionStatementTree;
import com.sun.source.tree.ForLoopTree;
import com.sun.source.tree.LambdaExpressionTree;
import com.sun.source.tree.MemberReferenceTree;
import com.sun.source.tree.MethodInvocationTree;
import com.sun.source.tree.MethodTree;
import com.sun.source.tree.NewClassTree;
import com.sun.source.tree.SynchronizedTree;
import com.sun.source.tree.ThrowTree;
import com.sun.source.tree.Tree;
import com.sun.source.tree.TryTree;
import com.sun.source.tree.UnaryTree;
import com.sun.source.tree.VariableTree;
import com.sun.source.tree.WhileLoopTree;
import com.sun.source.util.JavacTask;
import com.sun.source.util.SourcePositions;
import com.sun.source.util.TreePath;
import com.sun.source.util.TreePathScanner;
import com.sun.source.util.Trees;
import java.io.File;
import java.util.ArrayList;
import java.util.HashMap;
import java.util.LinkedHashSet;
import java.util.List;
import java.util.Map;
import java.util.Set;
import java.util.TreeSet;
import javax.lang.model.element.Element;
import javax.lang.model.element.Modifier;
import javax.tools.JavaCompiler;
import javax.tools.StandardJavaFileManager;
import javax.tools.ToolProvider;

/** The rules of LANGUAGE.md that can be seen in the source, by javac's own reading of it. */
public final class LanguageTest {
    private static final Set<String> LIBRARY = Set.of(
        "java.lang.String.length", "java.lang.String.charAt", "java.lang.Math.min", "java.lang.Math.max",
        "java.lang.System.arraycopy", "java.util.Arrays.fill", "java.util.Arrays.copyOf");
    private static final Set<String> FACE = Set.of(
        "NONE", "RANGE", "FULL", "<init>", "feed", "end", "table", "way", "fault", "size", "cell", "copy", "fits",
        "step", "walk", "steps", "stepAt", "chain", "find", "found", "take", "part", "count");

    private static final class Reader extends TreePathScanner<Void, Void> {
        final Trees trees;
        final CompilationUnitTree unit;
        final Map<String, Set<String>> calls = new HashMap<>();
        final Set<String> methods = new TreeSet<>();
        final Set<String> face = new TreeSet<>();
        final List<String> hidden = new ArrayList<>();
        /** What the for loops around the lines that are read count by. */
        private final List<Element> counters = new ArrayList<>();
        int classes = 0;
        int loops = 0;
        private String method = "";

        Reader(Trees trees, CompilationUnitTree unit) {
            this.trees = trees;
            this.unit = unit;
        }

        private long line(Tree tree) {
            return unit.getLineMap().getLineNumber(trees.getSourcePositions().getStartPosition(unit, tree));
        }

        private void refuse(Tree tree, String rule) {
            Check.due("line " + line(tree) + ": " + rule, 1, 0);
        }

        @Override
        public Void visitClass(ClassTree tree, Void none) {
            classes++;
            TreePath above = getCurrentPath().getParentPath();
            if (above.getLeaf() instanceof ClassTree && !tree.getModifiers().getFlags().contains(Modifier.STATIC)) {
                refuse(tree, "a class inside isn't static (2)");
            }
            int fields = 0;
            for (Tree member : tree.getMembers()) {
                if (member instanceof BlockTree) {
                    refuse(member, "an initialiser block (5)");
                }
                if (member instanceof VariableTree) {
                    Set<Modifier> flags = ((VariableTree) member).getModifiers().getFlags();
                    fields += flags.contains(Modifier.STATIC) ? 0 : 1;
                    if (flags.contains(Modifier.STATIC) && !flags.contains(Modifier.FINAL)) {
                        refuse(member, "a static field that isn't final (5)");
                    }
                }
            }
            Check.due("many fields in " + tree.getSimpleName(), fields > 20 ? fields : 0, 0);
            return super.visitClass(tree, none);
        }

        @Override
        public Void visitVariable(VariableTree tree, Void none) {
            if (getCurrentPath().getParentPath().getLeaf() instanceof ClassTree) {
                Element field = trees.getElement(getCurrentPath());
                noteMember(tree, field, tree.getModifiers().getFlags());
            }
            return super.visitVariable(tree, none);
        }

        private void noteMember(Tree tree, Element member, Set<Modifier> flags) {
            if (!member.getEnclosingElement().toString().equals("TableWays")) {
                return;
            }
            if (flags.contains(Modifier.PUBLIC)) {
                face.add(member.getSimpleName().toString());
            } else if (!flags.contains(Modifier.PRIVATE)) {
                refuse(tree, "a member that is neither of the face nor private (1)");
            }
        }

        @Override
        public Void visitMethod(MethodTree tree, Void none) {
            Element element = trees.getElement(getCurrentPath());
            method = element.getEnclosingElement() + "." + element;
            methods.add(method);
            noteMember(tree, element, tree.getModifiers().getFlags());
            if (!tree.getModifiers().getFlags().contains(Modifier.PUBLIC)) {
                hidden.add(tree.getName().toString());
            }
            SourcePositions at = trees.getSourcePositions();
            long lines = unit.getLineMap().getLineNumber(at.getEndPosition(unit, tree)) - line(tree) + 1;
            Check.due("lines of " + method, lines > 60 ? lines : 0, 0);
            Check.due("parameters of " + method, tree.getParameters().size() > 7 ? 1 : 0, 0);
            Void answer = super.visitMethod(tree, none);
            method = "";
            return answer;
        }

        private void noteCall(Tree tree) {
            Element called = trees.getElement(getCurrentPath());
            String name = called.getEnclosingElement() + "." + called;
            String plain = called.getEnclosingElement() + "." + called.getSimpleName();
            if (called.getEnclosingElement().toString().startsWith("TableWays")) {
                calls.computeIfAbsent(method, k -> new LinkedHashSet<>()).add(name);
            } else if (!LIBRARY.contains(plain) && !plain.equals("java.lang.Object.<init>")) {
                refuse(tree, plain + " isn't in the list that is used here (4)");
            }
        }

        @Override
        public Void visitMethodInvocation(MethodInvocationTree tree, Void none) {
            noteCall(tree);
            return super.visitMethodInvocation(tree, none);
        }

        @Override
        public Void visitNewClass(NewClassTree tree, Void none) {
            noteCall(tree);
            if (tree.getClassBody() != null) {
                refuse(tree, "an anonymous class (2)");
            }
            return super.visitNewClass(tree, none);
        }

        @Override
        public Void visitBinary(BinaryTree tree, Void none) {
            if (trees.getTypeMirror(getCurrentPath()).toString().equals("java.lang.String")) {
                refuse(tree, "texts joined by + (10)");
            }
            return super.visitBinary(tree, none);
        }

        /** A loop counts by what its head sets, and nothing in its body sets that, so its head tells its end. */
        @Override
        public Void visitForLoop(ForLoopTree tree, Void none) {
            loops++;
            if (tree.getCondition() == null || tree.getUpdate().isEmpty()) {
                refuse(tree, "a loop whose head tells no end (9)");
            }
            scan(tree.getInitializer(), none);
            scan(tree.getCondition(), none);
            scan(tree.getUpdate(), none);
            int around = counters.size();
            for (ExpressionStatementTree update : tree.getUpdate()) {
                counters.add(whatIsSet(update.getExpression(), new TreePath(getCurrentPath(), update)));
            }
            scan(tree.getStatement(), none);
            counters.subList(around, counters.size()).clear();
            return none;
        }

        private Element whatIsSet(Tree setting, TreePath path) {
            Tree set = setting instanceof UnaryTree ? ((UnaryTree) setting).getExpression()
                : setting instanceof CompoundAssignmentTree ? ((CompoundAssignmentTree) setting).getVariable()
                : ((AssignmentTree) setting).getVariable();
            return trees.getElement(new TreePath(new TreePath(path, setting), set));
        }

        private void noteSetting(Tree tree) {
            if (counters.contains(whatIsSet(tree, getCurrentPath().getParentPath()))) {
                refuse(tree, "a loop's body sets what the loop counts by (9)");
            }
        }

        @Override
        public Void visitAssignment(AssignmentTree tree, Void none) {
            noteSetting(tree);
            return super.visitAssignment(tree, none);
        }

        @Override
        public Void visitCompoundAssignment(CompoundAssignmentTree tree, Void none) {
            noteSetting(tree);
            return super.visitCompoundAssignment(tree, none);
        }

        @Override
        public Void visitUnary(UnaryTree tree, Void none) {
            Tree.Kind kind = tree.getKind();
            if (kind == Tree.Kind.POSTFIX_INCREMENT || kind == Tree.Kind.POSTFIX_DECREMENT
                    || kind == Tree.Kind.PREFIX_INCREMENT || kind == Tree.Kind.PREFIX_DECREMENT) {
                noteSetting(tree);
            }
            return super.visitUnary(tree, none);
        }

        @Override
        public Void visitWhileLoop(WhileLoopTree tree, Void none) {
            refuse(tree, "a loop that doesn't count in its head (9)");
            return super.visitWhileLoop(tree, none);
        }

        @Override
        public Void visitDoWhileLoop(DoWhileLoopTree tree, Void none) {
            refuse(tree, "a loop that doesn't count in its head (9)");
            return super.visitDoWhileLoop(tree, none);
        }

        @Override
        public Void visitThrow(ThrowTree tree, Void none) {
            refuse(tree, "throw (6)");
            return super.visitThrow(tree, none);
        }

        @Override
        public Void visitTry(TryTree tree, Void none) {
            refuse(tree, "try (6)");
            return super.visitTry(tree, none);
        }

        @Override
        public Void visitSynchronized(SynchronizedTree tree, Void none) {
            refuse(tree, "synchronized (6)");
            return super.visitSynchronized(tree, none);
        }

        @Override
        public Void visitAssert(AssertTree tree, Void none) {
            refuse(tree, "assert (6)");
            return super.visitAssert(tree, none);
        }

        @Override
        public Void visitLambdaExpression(LambdaExpressionTree tree, Void none) {
            refuse(tree, "a lambda (2)");
            return super.visitLambdaExpression(tree, none);
        }

        @Override
        public Void visitMemberReference(MemberReferenceTree tree, Void none) {
            refuse(tree, "a method reference (2)");
            return super.visitMemberReference(tree, none);
        }

        /** How many calls stand open at most; the class has no recursion. */
        int depth(String from, Set<String> open) {
            if (!open.add(from)) {
                Check.due("recursion at " + from, 1, 0);
                return 0;
            }
            int deepest = 0;
            for (String called : calls.getOrDefault(from, Set.of())) {
                deepest = Math.max(deepest, depth(called, open));
            }
            open.remove(from);
            return 1 + deepest;
        }
    }

    public static void main(String[] args) throws Exception {
        File source = new File(System.getProperty("project", "."), "src/main/java/TableWays.java");
        JavaCompiler compiler = ToolProvider.getSystemJavaCompiler();
        try (StandardJavaFileManager files = compiler.getStandardFileManager(null, null, null)) {
            JavacTask task = (JavacTask) compiler.getTask(null, files, null, List.of("-proc:none"), null,
                files.getJavaFileObjects(source));
            CompilationUnitTree unit = task.parse().iterator().next();
            task.analyze();
            Reader reader = new Reader(Trees.instance(task), unit);
            reader.scan(unit, null);
            Check.due("the face", new TreeSet<>(reader.face).toString(), new TreeSet<>(FACE).toString());
            for (String name : reader.hidden) {
                Check.due(name + " bears a public name (1)", !name.equals("<init>") && FACE.contains(name) ? 1 : 0, 0);
            }
            Check.due("classes", reader.classes - 1 > 12 ? reader.classes - 1 : 0, 0);
            int deepest = 0;
            for (String method : reader.methods) {
                deepest = Math.max(deepest, reader.depth(method, new LinkedHashSet<>()));
            }
            System.out.println(reader.classes + " classes, " + reader.loops + " loops, calls go " + deepest + " deep");
            Check.due("loops are read", reader.loops > 0 ? 1 : 0, 1);
            Check.due("calls go deeper than eight (11)", deepest > 8 ? deepest : 0, 0);
        }
        Check.end();
    }
}
