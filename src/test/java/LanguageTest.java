import com.sun.source.tree.AssertTree;
import com.sun.source.tree.AssignmentTree;
import com.sun.source.tree.BinaryTree;
import com.sun.source.tree.BlockTree;
import com.sun.source.tree.ClassTree;
import com.sun.source.tree.CompilationUnitTree;
import com.sun.source.tree.CompoundAssignmentTree;
import com.sun.source.tree.DoWhileLoopTree;
import com.sun.source.tree.ForLoopTree;
import com.sun.source.tree.ImportTree;
import com.sun.source.tree.LambdaExpressionTree;
import com.sun.source.tree.LineMap;
import com.sun.source.tree.MemberReferenceTree;
import com.sun.source.tree.MethodInvocationTree;
import com.sun.source.tree.MethodTree;
import com.sun.source.tree.NewArrayTree;
import com.sun.source.tree.NewClassTree;
import com.sun.source.tree.SynchronizedTree;
import com.sun.source.tree.ThrowTree;
import com.sun.source.tree.Tree;
import com.sun.source.tree.TryTree;
import com.sun.source.tree.TypeCastTree;
import com.sun.source.tree.UnaryTree;
import com.sun.source.tree.VariableTree;
import com.sun.source.tree.WhileLoopTree;
import com.sun.source.util.JavacTask;
import com.sun.source.util.TreePath;
import com.sun.source.util.TreePathScanner;
import com.sun.source.util.TreeScanner;
import com.sun.source.util.Trees;
import java.io.IOException;
import java.nio.file.Path;
import java.util.ArrayList;
import java.util.HashMap;
import java.util.HashSet;
import java.util.List;
import java.util.Map;
import java.util.Set;
import javax.lang.model.element.Element;
import javax.lang.model.element.ExecutableElement;
import javax.lang.model.element.Modifier;
import javax.tools.JavaCompiler;
import javax.tools.StandardJavaFileManager;
import javax.tools.ToolProvider;

/**
 * The rules of LANGUAGE.md that the source itself can be asked about. Where a rule allows more than
 * the class uses, the test holds the class to what it uses: a new construct is to be looked up in
 * the rule, and then allowed here.
 */
public final class LanguageTest {
    private static final String SOURCE = "src/main/java/InodeCouncil.java";
    private static final Set<String> IMPORTS =
            Set.of("java.util.Arrays", "java.util.NoSuchElementException");
    private static final Set<String> TYPES = Set.of("int", "long", "char", "boolean", "int[]",
            "boolean[]", "char[]", "int[][]", "StringBuilder", "State", "Snapshots", "Holds");
    private static final Set<String> ANSWERS =
            Set.of("int", "long", "char", "boolean", "double", "float", "void");
    private static final Set<String> LIBRARY = Set.of("java.lang.System arraycopy",
            "java.util.Arrays fill", "java.lang.Math max", "java.lang.Long bitCount",
            "java.lang.StringBuilder append", "java.lang.AbstractStringBuilder charAt",
            "java.lang.AbstractStringBuilder length", "java.lang.AbstractStringBuilder setLength");
    private static final Set<String> EXCEPTIONS = Set.of("IllegalStateException",
            "IllegalArgumentException", "IndexOutOfBoundsException", "ArithmeticException",
            "UnsupportedOperationException", "NoSuchElementException");
    private static final int MOST_LINES = 60;
    private static final int MOST_PARAMETERS = 7;
    private static final int MOST_CLASSES = 12;
    private static final int MOST_FIELDS = 20;
    private static final int MOST_DEPTH = 8;

    public static void main(String[] args) throws IOException {
        JavaCompiler compiler = ToolProvider.getSystemJavaCompiler();
        try (StandardJavaFileManager files = compiler.getStandardFileManager(null, null, null)) {
            JavacTask task = (JavacTask) compiler.getTask(null, files, null,
                    List.of("--release", "17"), null, files.getJavaFileObjects(Path.of(SOURCE)));
            CompilationUnitTree unit = task.parse().iterator().next();
            task.analyze();
            Rules rules = new Rules(Trees.instance(task), unit);
            rules.scan(unit, null);
            rules.finish();
        }
        Checks.finish("LanguageTest");
    }

    private static final class Rules extends TreePathScanner<Void, Void> {
        private final Trees trees;
        private final CompilationUnitTree unit;
        private final LineMap lines;
        private final List<ClassTree> classes = new ArrayList<>();
        private final Map<Element, Set<Element>> calls = new HashMap<>();
        private final Map<Element, Integer> depths = new HashMap<>();
        private int loops = 0;

        Rules(Trees trees, CompilationUnitTree unit) {
            this.trees = trees;
            this.unit = unit;
            lines = unit.getLineMap();
        }

        void finish() {
            Checks.due("package", unit.getPackageName(), null);
            Checks.due("rule 1: classes on top", unit.getTypeDecls().size(), 1);
            Checks.due("rule 11: not too many classes", classes.size() <= MOST_CLASSES, true);
            Checks.due("there are calls to look at", calls.size() > 100, true);
            for (Element method : calls.keySet()) {
                int depth = depth(method, new HashSet<>());
                Checks.due("rule 11: " + method + " goes too deep", depth > MOST_DEPTH, false);
            }
        }

        /** How many methods of the file are open at once, this one counted. */
        private int depth(Element method, Set<Element> open) {
            Integer known = depths.get(method);
            if (known != null) {
                return known;
            }
            open.add(method);
            int deepest = 0;
            for (Element called : calls.get(method)) {
                boolean isRecursive = open.contains(called);
                Checks.due("rule 8: " + method + " is recursive", isRecursive, false);
                deepest = Math.max(deepest, isRecursive ? MOST_DEPTH : depth(called, open));
            }
            open.remove(method);
            depths.put(method, deepest + 1);
            return deepest + 1;
        }

        private String where(Tree tree) {
            long start = trees.getSourcePositions().getStartPosition(unit, tree);
            return "line " + lines.getLineNumber(start) + ": ";
        }

        private void isAbsent(String rule, Tree tree) {
            Checks.due(where(tree) + rule, "there", "absent");
        }

        private boolean isOutermost(ClassTree tree) {
            return unit.getTypeDecls().contains(tree);
        }

        private boolean isOwn(Element element) {
            TreePath path = trees.getPath(element);
            return path != null && path.getCompilationUnit() == unit;
        }

        @Override
        public Void visitImport(ImportTree tree, Void none) {
            String name = tree.getQualifiedIdentifier().toString();
            Checks.due("rule 4: import " + name, IMPORTS.contains(name), true);
            return super.visitImport(tree, none);
        }

        @Override
        public Void visitClass(ClassTree tree, Void none) {
            classes.add(tree);
            Set<Modifier> flags = tree.getModifiers().getFlags();
            if (!isOutermost(tree)) {
                Checks.due("rule 1: " + tree.getSimpleName(), flags.contains(Modifier.STATIC)
                        && flags.contains(Modifier.PRIVATE), true);
            }
            int fields = 0;
            for (Tree member : tree.getMembers()) {
                if (member instanceof BlockTree) {
                    isAbsent("rule 5: initialiser block", member);
                }
                if (member instanceof VariableTree field) {
                    fields += checkField(field);
                }
            }
            Checks.due("rule 11: fields of " + tree.getSimpleName(), fields <= MOST_FIELDS, true);
            return super.visitClass(tree, none);
        }

        /** A field must be private, a static one a constant; answers 1 for one that is not. */
        private int checkField(VariableTree field) {
            Set<Modifier> flags = field.getModifiers().getFlags();
            Checks.due("rule 1: private " + field.getName(), flags.contains(Modifier.PRIVATE),
                    true);
            if (!flags.contains(Modifier.STATIC)) {
                return 1;
            }
            Checks.due("rule 5: final " + field.getName(), flags.contains(Modifier.FINAL), true);
            Checks.due("rule 5: int " + field.getName(), field.getType().toString(), "int");
            return 0;
        }

        @Override
        public Void visitVariable(VariableTree tree, Void none) {
            String type = tree.getType().toString();
            Checks.due(where(tree) + "rule 3: " + type, TYPES.contains(type), true);
            return super.visitVariable(tree, none);
        }

        @Override
        public Void visitMethod(MethodTree tree, Void none) {
            calls.putIfAbsent(trees.getElement(getCurrentPath()), new HashSet<>());
            long first = lines.getLineNumber(
                    trees.getSourcePositions().getStartPosition(unit, tree));
            long last = lines.getLineNumber(trees.getSourcePositions().getEndPosition(unit, tree));
            Checks.due("rule 11: lines of " + tree.getName(), last - first < MOST_LINES, true);
            Checks.due("rule 11: parameters of " + tree.getName(),
                    tree.getParameters().size() <= MOST_PARAMETERS, true);
            if (tree.getReturnType() != null) {
                Checks.due("rule 3: what " + tree.getName() + " answers",
                        ANSWERS.contains(tree.getReturnType().toString()), true);
            }
            return super.visitMethod(tree, none);
        }

        private Element method() {
            TreePath path = getCurrentPath();
            while (!(path.getLeaf() instanceof MethodTree)) {
                path = path.getParentPath();
            }
            return trees.getElement(path);
        }

        @Override
        public Void visitMethodInvocation(MethodInvocationTree tree, Void none) {
            ExecutableElement called = (ExecutableElement) trees.getElement(getCurrentPath());
            if (isOwn(called)) {
                calls.computeIfAbsent(method(), m -> new HashSet<>()).add(called);
            } else if (!called.getSimpleName().contentEquals("<init>")) {
                String name = called.getEnclosingElement() + " " + called.getSimpleName();
                Checks.due(where(tree) + "rule 4: " + name, LIBRARY.contains(name), true);
            }
            return super.visitMethodInvocation(tree, none);
        }

        @Override
        public Void visitThrow(ThrowTree tree, Void none) {
            boolean isWritten = tree.getExpression() instanceof NewClassTree made
                    && EXCEPTIONS.contains(made.getIdentifier().toString())
                    && made.getArguments().size() == 1
                    && made.getArguments().get(0).getKind() == Tree.Kind.STRING_LITERAL;
            Checks.due(where(tree) + "rule 6: a written exception", isWritten, true);
            Checks.due(where(tree) + "rule 6: throw in a constructor",
                    method().getSimpleName().contentEquals("<init>"), false);
            // Not scanned further: an exception may be made by a call, and it ends every loop.
            return null;
        }

        // Rules 9 and 12: every loop counts up to a bound, its body leaves the counter alone, and
        // nothing is made in it. Only constructors make anything, so that no run makes much.

        @Override
        public Void visitForLoop(ForLoopTree tree, Void none) {
            boolean counts = tree.getInitializer().size() == 1
                    && tree.getInitializer().get(0) instanceof VariableTree
                    && tree.getUpdate().size() == 1
                    && tree.getUpdate().get(0).toString().endsWith("++;");
            Checks.due(where(tree) + "rule 9: a loop that counts up", counts, true);
            if (counts) {
                String counter = ((VariableTree) tree.getInitializer().get(0)).getName().toString();
                Checks.due(where(tree) + "rule 9: a bound for " + counter,
                        tree.getCondition().toString().startsWith(counter + " < "), true);
                Checks.due(where(tree) + "rule 9: changes of " + counter,
                        isChanged(counter, tree.getStatement()), false);
            }
            loops++;
            super.visitForLoop(tree, none);
            loops--;
            return null;
        }

        private static boolean isChanged(String counter, Tree body) {
            Boolean changed = new TreeScanner<Boolean, Void>() {
                @Override
                public Boolean visitUnary(UnaryTree tree, Void none) {
                    boolean isStep = switch (tree.getKind()) {
                        case PREFIX_INCREMENT, PREFIX_DECREMENT, POSTFIX_INCREMENT,
                                POSTFIX_DECREMENT -> true;
                        default -> false;
                    };
                    return reduce(super.visitUnary(tree, none),
                            isStep && tree.getExpression().toString().equals(counter));
                }

                @Override
                public Boolean visitAssignment(AssignmentTree tree, Void none) {
                    return reduce(super.visitAssignment(tree, none),
                            tree.getVariable().toString().equals(counter));
                }

                @Override
                public Boolean visitCompoundAssignment(CompoundAssignmentTree tree, Void none) {
                    return reduce(super.visitCompoundAssignment(tree, none),
                            tree.getVariable().toString().equals(counter));
                }

                @Override
                public Boolean reduce(Boolean a, Boolean b) {
                    return Boolean.TRUE.equals(a) || Boolean.TRUE.equals(b);
                }
            }.scan(body, null);
            return Boolean.TRUE.equals(changed);
        }

        @Override
        public Void visitNewClass(NewClassTree tree, Void none) {
            checkMaking(tree);
            return super.visitNewClass(tree, none);
        }

        @Override
        public Void visitNewArray(NewArrayTree tree, Void none) {
            checkMaking(tree);
            return super.visitNewArray(tree, none);
        }

        private void checkMaking(Tree tree) {
            Checks.due(where(tree) + "rule 12: made in a loop", loops, 0);
            Checks.due(where(tree) + "rule 12: made by a constructor",
                    method().getSimpleName().contentEquals("<init>"), true);
        }

        @Override
        public Void visitBinary(BinaryTree tree, Void none) {
            String type = trees.getTypeMirror(getCurrentPath()).toString();
            Checks.due(where(tree) + "rule 10: texts joined", type.endsWith("String"), false);
            return super.visitBinary(tree, none);
        }

        @Override
        public Void visitTypeCast(TypeCastTree tree, Void none) {
            String type = tree.getType().toString();
            Checks.due(where(tree) + "rule 3: a cast to " + type,
                    Set.of("double", "float").contains(type), true);
            return super.visitTypeCast(tree, none);
        }

        // What the class does without.

        @Override
        public Void visitTry(TryTree tree, Void none) {
            isAbsent("rule 6: try", tree);
            return null;
        }

        @Override
        public Void visitLambdaExpression(LambdaExpressionTree tree, Void none) {
            isAbsent("rule 2: lambda", tree);
            return null;
        }

        @Override
        public Void visitMemberReference(MemberReferenceTree tree, Void none) {
            isAbsent("rule 2: method reference", tree);
            return null;
        }

        @Override
        public Void visitSynchronized(SynchronizedTree tree, Void none) {
            isAbsent("rule 6: synchronized", tree);
            return null;
        }

        @Override
        public Void visitAssert(AssertTree tree, Void none) {
            isAbsent("rule 6: assert", tree);
            return null;
        }

        @Override
        public Void visitWhileLoop(WhileLoopTree tree, Void none) {
            isAbsent("rule 9: while", tree);
            return null;
        }

        @Override
        public Void visitDoWhileLoop(DoWhileLoopTree tree, Void none) {
            isAbsent("rule 9: do", tree);
            return null;
        }
    }
}
