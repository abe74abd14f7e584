import com.sun.source.tree.AssertTree;
import com.sun.source.tree.AssignmentTree;
import com.sun.source.tree.BinaryTree;
import com.sun.source.tree.BlockTree;
import com.sun.source.tree.ClassTree;
import com.sun.source.tree.CompilationUnitTree;
import com.sun.source.tree.CompoundAssignmentTree;
import com.sun.source.tree.DoWhileLoopTree;
import com.sun.source.tree.EnhancedForLoopTree;
import com.sun.source.tree.ExpressionStatementTree;
import com.sun.source.tree.ExpressionTree;
import com.sun.source.tree.ForLoopTree;
import com.sun.source.tree.ImportTree;
import com.sun.source.tree.LambdaExpressionTree;
import com.sun.source.tree.LiteralTree;
import com.sun.source.tree.MemberReferenceTree;
import com.sun.source.tree.MethodInvocationTree;
import com.sun.source.tree.MethodTree;
import com.sun.source.tree.NewArrayTree;
import com.sun.source.tree.NewClassTree;
import com.sun.source.tree.StatementTree;
import com.sun.source.tree.SynchronizedTree;
import com.sun.source.tree.ThrowTree;
import com.sun.source.tree.Tree;
import com.sun.source.tree.TryTree;
import com.sun.source.tree.TypeCastTree;
import com.sun.source.tree.UnaryTree;
import com.sun.source.tree.VariableTree;
import com.sun.source.tree.WhileLoopTree;
import com.sun.source.util.JavacTask;
import com.sun.source.util.TreePath;
import com.sun.source.util.TreePathScanner;
import com.sun.source.util.TreeScanner;
import com.sun.source.util.Trees;
import java.io.File;
import java.nio.file.Files;
import java.nio.file.Path;
import java.util.ArrayDeque;
import java.util.Deque;
import java.util.LinkedHashMap;
import java.util.LinkedHashSet;
import java.util.List;
import java.util.Map;
import java.util.Set;
import javax.lang.model.element.Element;
import javax.lang.model.element.ElementKind;
import javax.lang.model.element.ExecutableElement;
import javax.lang.model.element.Modifier;
import javax.lang.model.type.ArrayType;
import javax.lang.model.type.TypeMirror;
import javax.tools.JavaCompiler;
import javax.tools.StandardJavaFileManager;
import javax.tools.ToolProvider;

/**
 * The rules of LANGUAGE.md, looked for in the class as the compiler reads it. Where the class needs less than a rule leaves,
 * the test asks for that less (no while, no text, nothing made outside constructors): what is added later shows up here and
 * can be weighed against the rule.
 */
public final class RulesTest {
    private static final int MOST_LINES = 60, MOST_PARAMETERS = 7, MOST_DEPTH = 8;
    private static final Set<String> LIBRARY = Set.of("Math.max", "Math.min", "Integer.bitCount", "System.arraycopy");
    private static final Set<String> NUMBERS = Set.of("int", "long", "boolean");

    private final Check check = new Check();
    private final Map<String, Set<String>> calls = new LinkedHashMap<>();
    private final Set<String> carriesDepth = new LinkedHashSet<>();
    private CompilationUnitTree unit;
    private Trees trees;

    public static void main(String[] args) throws Exception {
        RulesTest test = new RulesTest();
        test.read(Path.of(args[0]));
        test.new Reader().scan(test.unit, null);
        test.depths();
        test.check.end("RulesTest");
    }

    private void read(Path source) throws Exception {
        JavaCompiler compiler = ToolProvider.getSystemJavaCompiler();
        StandardJavaFileManager files = compiler.getStandardFileManager(null, null, null);
        JavacTask task = (JavacTask) compiler.getTask(null, files, null, List.of("--release", "17", "-proc:none"), null,
                files.getJavaFileObjects(new File(source.toString())));
        unit = task.parse().iterator().next();
        task.analyze();
        trees = Trees.instance(task);
        isTrue("rule 4: signs beyond 126", Files.readString(source).chars().allMatch(sign -> sign < 127));
    }

    private void isTrue(String what, boolean so) {
        check.due(what, so ? 1 : 0, 1);
    }

    /** The longest chain of calls from each method of the face, no method twice in it; and who calls itself carries a depth. */
    private void depths() {
        for (String method : calls.keySet()) {
            Deque<String> chain = new ArrayDeque<>();
            List<String> longest = longestFrom(method, chain);
            isTrue("rule 11: calls at most " + MOST_DEPTH + " deep: " + longest, longest.size() <= MOST_DEPTH);
            isTrue("rule 8: " + method + " calls itself and carries a depth", !reaches(method, method) || carriesDepth.contains(method));
        }
    }

    private List<String> longestFrom(String method, Deque<String> chain) {
        chain.addLast(method);
        List<String> longest = List.copyOf(chain);
        for (String called : calls.getOrDefault(method, Set.of())) {
            if (!chain.contains(called)) {
                List<String> further = longestFrom(called, chain);
                longest = further.size() > longest.size() ? further : longest;
            }
        }
        chain.removeLast();
        return longest;
    }

    private boolean reaches(String from, String to) {
        Set<String> found = new LinkedHashSet<>(calls.getOrDefault(from, Set.of()));
        Deque<String> open = new ArrayDeque<>(found);
        while (!open.isEmpty()) {
            for (String called : calls.getOrDefault(open.removeFirst(), Set.of())) {
                if (found.add(called)) {
                    open.addLast(called);
                }
            }
        }
        return found.contains(to);
    }

    private final class Reader extends TreePathScanner<Void, Void> {
        private ExecutableElement inside;

        private Element here() {
            return trees.getElement(getCurrentPath());
        }

        private TypeMirror type() {
            return trees.getTypeMirror(getCurrentPath());
        }

        private String place(Tree tree) {
            return "line " + unit.getLineMap().getLineNumber(start(tree)) + ": ";
        }

        private long start(Tree tree) {
            return trees.getSourcePositions().getStartPosition(unit, tree);
        }

        private long end(Tree tree) {
            return trees.getSourcePositions().getEndPosition(unit, tree);
        }

        private void never(int rule, Tree tree) {
            isTrue(place(tree) + "rule " + rule + ": no " + tree.getKind(), false);
        }

        private boolean isOwn(Element element) {
            Element outermost = element;
            while (outermost.getEnclosingElement().getKind() != ElementKind.PACKAGE) {
                outermost = outermost.getEnclosingElement();
            }
            return outermost.getSimpleName().contentEquals("SupperTales");
        }

        private boolean isOwnClass(String type) {
            return type.equals("SupperTales") || type.startsWith("SupperTales.");
        }

        @Override
        public Void visitClass(ClassTree tree, Void none) {
            Element element = here();
            boolean outermost = element.getEnclosingElement().getKind() == ElementKind.PACKAGE;
            boolean nested = element.getEnclosingElement().getKind() == ElementKind.CLASS
                    && element.getModifiers().containsAll(Set.of(Modifier.STATIC, Modifier.PRIVATE));
            isTrue(place(tree) + "rule 2: " + tree.getSimpleName() + " is private and static", outermost || nested);
            for (Tree member : tree.getMembers()) {
                isTrue(place(member) + "rule 5: no initialiser block", !(member instanceof BlockTree));
            }
            return super.visitClass(tree, none);
        }

        @Override
        public Void visitMethod(MethodTree tree, Void none) {
            ExecutableElement element = (ExecutableElement) here();
            inside = element;
            calls.putIfAbsent(nameOf(element), new LinkedHashSet<>());
            if (element.getKind() == ElementKind.METHOD) {
                long lines = unit.getLineMap().getLineNumber(end(tree)) - unit.getLineMap().getLineNumber(start(tree)) + 1;
                isTrue(place(tree) + "rule 11: " + lines + " lines", lines <= MOST_LINES);
            }
            isTrue(place(tree) + "rule 11: parameters", tree.getParameters().size() <= MOST_PARAMETERS);
            for (VariableTree parameter : tree.getParameters()) {
                if (parameter.getName().contentEquals("depth")) {
                    carriesDepth.add(nameOf(element));
                }
            }
            super.visitMethod(tree, none);
            inside = null;
            return null;
        }

        private String nameOf(Element element) {
            return element.getEnclosingElement().getSimpleName() + "." + element;
        }

        private void called(Element element) {
            if (inside != null) {
                calls.computeIfAbsent(nameOf(inside), key -> new LinkedHashSet<>()).add(nameOf(element));
            }
        }

        @Override
        public Void visitMethodInvocation(MethodInvocationTree tree, Void none) {
            Element element = here();
            boolean superOfMaker = element.getKind() == ElementKind.CONSTRUCTOR;
            if (isOwn(element)) {
                called(element);
            } else if (!superOfMaker) {
                String name = element.getEnclosingElement().getSimpleName() + "." + element.getSimpleName();
                isTrue(place(tree) + "rule 4: the library's " + name, LIBRARY.contains(name));
            }
            return super.visitMethodInvocation(tree, none);
        }

        @Override
        public Void visitNewClass(NewClassTree tree, Void none) {
            Element made = here();
            isTrue(place(tree) + "rule 3: " + made + " is an own class", made != null && isOwn(made));
            isTrue(place(tree) + "rule 2: no class without a name", tree.getClassBody() == null);
            isMadeOnce(tree);
            called(made);
            return super.visitNewClass(tree, none);
        }

        @Override
        public Void visitNewArray(NewArrayTree tree, Void none) {
            isMadeOnce(tree);
            return super.visitNewArray(tree, none);
        }

        private void isMadeOnce(Tree tree) {
            boolean so = inside == null || inside.getKind() == ElementKind.CONSTRUCTOR;
            isTrue(place(tree) + "rule 12: made in constructors alone", so);
        }

        @Override
        public Void visitVariable(VariableTree tree, Void none) {
            TypeMirror type = type();
            boolean array = type instanceof ArrayType;
            String name = array ? ((ArrayType) type).getComponentType().toString() : type.toString();
            isTrue(place(tree) + "rule 3: the type " + type, NUMBERS.contains(name) || isOwnClass(name));
            Element element = here();
            if (element.getModifiers().contains(Modifier.STATIC)) {
                isTrue(place(tree) + "rule 5: a constant number", element.getModifiers().contains(Modifier.FINAL)
                        && !array && NUMBERS.contains(name));
            }
            return super.visitVariable(tree, none);
        }

        @Override
        public Void visitForLoop(ForLoopTree tree, Void none) {
            isTrue(place(tree) + "rule 9: a counter against a bound", isCounted(tree));
            return super.visitForLoop(tree, none);
        }

        /** One counter of its own, compared in each round, moved by one in one place, and not set anywhere else. */
        private boolean isCounted(ForLoopTree tree) {
            if (tree.getInitializer().size() != 1 || !(tree.getInitializer().get(0) instanceof VariableTree)
                    || tree.getCondition() == null || tree.getUpdate().size() != 1) {
                return false;
            }
            String counter = ((VariableTree) tree.getInitializer().get(0)).getName().toString();
            ExpressionTree move = ((ExpressionStatementTree) tree.getUpdate().get(0)).getExpression();
            boolean up = move.getKind() == Tree.Kind.POSTFIX_INCREMENT;
            boolean down = move.getKind() == Tree.Kind.POSTFIX_DECREMENT;
            return (up || down) && ((UnaryTree) move).getExpression().toString().equals(counter)
                    && isBounded(tree.getCondition(), counter, up) && !isSetIn(tree.getStatement(), counter);
        }

        private boolean isBounded(ExpressionTree condition, String counter, boolean up) {
            if (!(condition instanceof BinaryTree)) {
                return false;
            }
            BinaryTree both = (BinaryTree) condition;
            if (both.getKind() == Tree.Kind.CONDITIONAL_AND) {
                return isBounded(both.getLeftOperand(), counter, up) || isBounded(both.getRightOperand(), counter, up);
            }
            Set<Tree.Kind> kinds = up ? Set.of(Tree.Kind.LESS_THAN, Tree.Kind.LESS_THAN_EQUAL)
                    : Set.of(Tree.Kind.GREATER_THAN, Tree.Kind.GREATER_THAN_EQUAL);
            return kinds.contains(both.getKind()) && both.getLeftOperand().toString().equals(counter);
        }

        private boolean isSetIn(StatementTree body, String counter) {
            boolean[] set = {false};
            new TreeScanner<Void, Void>() {
                private void look(Tree target) {
                    set[0] |= target.toString().equals(counter);
                }

                @Override
                public Void visitAssignment(AssignmentTree tree, Void none) {
                    look(tree.getVariable());
                    return super.visitAssignment(tree, none);
                }

                @Override
                public Void visitCompoundAssignment(CompoundAssignmentTree tree, Void none) {
                    look(tree.getVariable());
                    return super.visitCompoundAssignment(tree, none);
                }

                @Override
                public Void visitUnary(UnaryTree tree, Void none) {
                    look(tree.getExpression());
                    return super.visitUnary(tree, none);
                }
            }.scan(body, null);
            return set[0];
        }

        @Override
        public Void visitTypeCast(TypeCastTree tree, Void none) {
            isTrue(place(tree) + "rule 6: a cast of numbers alone", NUMBERS.contains(type().toString()));
            return super.visitTypeCast(tree, none);
        }

        @Override
        public Void visitLiteral(LiteralTree tree, Void none) {
            isTrue(place(tree) + "rule 10: no text to join", tree.getKind() != Tree.Kind.STRING_LITERAL);
            return null;
        }

        @Override
        public Void visitWhileLoop(WhileLoopTree tree, Void none) {
            never(9, tree);
            return null;
        }

        @Override
        public Void visitDoWhileLoop(DoWhileLoopTree tree, Void none) {
            never(9, tree);
            return null;
        }

        @Override
        public Void visitEnhancedForLoop(EnhancedForLoopTree tree, Void none) {
            TypeMirror over = trees.getTypeMirror(new TreePath(getCurrentPath(), tree.getExpression()));
            isTrue(place(tree) + "rule 12: over an array, that needs no iterator", over instanceof ArrayType);
            return super.visitEnhancedForLoop(tree, none);
        }

        @Override
        public Void visitThrow(ThrowTree tree, Void none) {
            never(6, tree);
            return null;
        }

        @Override
        public Void visitTry(TryTree tree, Void none) {
            never(6, tree);
            return null;
        }

        @Override
        public Void visitSynchronized(SynchronizedTree tree, Void none) {
            never(6, tree);
            return null;
        }

        @Override
        public Void visitAssert(AssertTree tree, Void none) {
            never(6, tree);
            return null;
        }

        @Override
        public Void visitLambdaExpression(LambdaExpressionTree tree, Void none) {
            never(2, tree);
            return null;
        }

        @Override
        public Void visitMemberReference(MemberReferenceTree tree, Void none) {
            never(2, tree);
            return null;
        }

        @Override
        public Void visitImport(ImportTree tree, Void none) {
            never(4, tree);
            return null;
        }
    }
}
