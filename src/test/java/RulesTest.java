import com.sun.source.tree.AssertTree;
import com.sun.source.tree.BinaryTree;
import com.sun.source.tree.BlockTree;
import com.sun.source.tree.ClassTree;
import com.sun.source.tree.CompilationUnitTree;
import com.sun.source.tree.IdentifierTree;
import com.sun.source.tree.ImportTree;
import com.sun.source.tree.LambdaExpressionTree;
import com.sun.source.tree.LiteralTree;
import com.sun.source.tree.MemberReferenceTree;
import com.sun.source.tree.MemberSelectTree;
import com.sun.source.tree.MethodInvocationTree;
import com.sun.source.tree.MethodTree;
import com.sun.source.tree.NewClassTree;
import com.sun.source.tree.SynchronizedTree;
import com.sun.source.tree.ThrowTree;
import com.sun.source.tree.Tree;
import com.sun.source.tree.TryTree;
import com.sun.source.tree.VariableTree;
import com.sun.source.util.JavacTask;
import com.sun.source.util.TreeScanner;
import com.sun.source.util.Trees;
import java.io.IOException;
import java.nio.file.Path;
import java.util.HashMap;
import java.util.List;
import java.util.Map;
import java.util.Set;
import java.util.TreeSet;
import javax.lang.model.element.Modifier;
import javax.tools.JavaCompiler;
import javax.tools.StandardJavaFileManager;
import javax.tools.ToolProvider;

/** What a machine can see of the rules of ../shared/LANGUAGE.md, in the source of the class. */
public final class RulesTest extends Check {
    private static final Path SOURCE = Path.of("src/main/java/CrackTarget.java");
    private static final Set<String> LIBRARY = Set.of("Math.abs", "Math.floorDiv", "Math.max", "Math.min", "System.arraycopy");
    private static final int MOST_PARAMETERS = 7, MOST_LINES = 60, MOST_DEPTH = 8, MOST_CLASSES = 12, MOST_FIELDS = 20;

    public static void main(String[] args) throws IOException {
        test("the rules of LANGUAGE.md");
        JavaCompiler compiler = ToolProvider.getSystemJavaCompiler();
        try (StandardJavaFileManager files = compiler.getStandardFileManager(null, null, null)) {
            JavacTask task = (JavacTask) compiler.getTask(null, files, null, null, null, files.getJavaFileObjects(SOURCE));
            Look look = new Look(Trees.instance(task));
            for (CompilationUnitTree unit : task.parse()) {
                look.unit = unit;
                look.scan(unit, null);
            }
            look.judge();
        }
        end();
    }

    private static void wrong(String rule, String where) {
        due("rule " + rule, "kept", where);
    }

    private static final class Look extends TreeScanner<Void, Void> {
        private final Trees trees;
        private final Map<String, Set<String>> calls = new HashMap<>();
        private final Map<String, Integer> depths = new HashMap<>();
        private final Set<String> publicNames = new TreeSet<>();
        private final Set<String> privateNames = new TreeSet<>();
        private CompilationUnitTree unit;
        private Set<String> called = new TreeSet<>();
        private int classes = 0;

        Look(Trees trees) {
            this.trees = trees;
        }

        void judge() {
            due("rule 1: private methods that bear the name of a public one", "none", names(publicNames, privateNames));
            due("rule 11: some twelve classes", "kept", classes <= MOST_CLASSES ? "kept" : classes + " classes");
            for (String method : calls.keySet()) {
                int depth = depth(method, 0);
                due("rule 11: the depth of calls of " + method, "kept", depth <= MOST_DEPTH ? "kept" : depth + " deep");
            }
        }

        private static String names(Set<String> some, Set<String> others) {
            Set<String> both = new TreeSet<>(some);
            both.retainAll(others);
            return both.isEmpty() ? "none" : both.toString();
        }

        /** Methods of one name are taken together, so that this is never less than the real depth. */
        private int depth(String method, int above) {
            if (above > MOST_DEPTH || !calls.containsKey(method)) {
                return above > MOST_DEPTH ? above : 0;
            }
            if (!depths.containsKey(method)) {
                int below = 0;
                for (String next : calls.get(method)) {
                    below = Math.max(below, depth(next, above + 1));
                }
                depths.put(method, below + 1);
            }
            return depths.get(method);
        }

        @Override
        public Void visitClass(ClassTree tree, Void none) {
            classes++;
            boolean outer = tree.getSimpleName().contentEquals("CrackTarget");
            Set<Modifier> is = tree.getModifiers().getFlags();
            if (!outer && (!is.contains(Modifier.STATIC) || is.contains(Modifier.PUBLIC) || is.contains(Modifier.PROTECTED))) {
                wrong("2", "class " + tree.getSimpleName());
            }
            int fields = 0;
            for (Tree member : tree.getMembers()) {
                if (member instanceof BlockTree) {
                    wrong("5", "an initialiser block of " + tree.getSimpleName());
                }
                if (member instanceof VariableTree field) {
                    fields += seeField(field, outer) ? 1 : 0;
                }
            }
            due("rule 11: some twenty fields", "kept", fields <= MOST_FIELDS ? "kept" : fields + " in " + tree.getSimpleName());
            return super.visitClass(tree, none);
        }

        /** Tells whether it is a field beside the constants. */
        private boolean seeField(VariableTree field, boolean outer) {
            Set<Modifier> is = field.getModifiers().getFlags();
            if (is.contains(Modifier.STATIC) && !is.contains(Modifier.FINAL)) {
                wrong("5", "field " + field.getName());
            }
            if (outer && !is.contains(Modifier.PRIVATE) && !is.containsAll(List.of(Modifier.PUBLIC, Modifier.STATIC, Modifier.FINAL))) {
                wrong("1", "field " + field.getName());
            }
            return !is.contains(Modifier.STATIC);
        }

        @Override
        public Void visitMethod(MethodTree tree, Void none) {
            String name = tree.getName().toString();
            if (tree.getReturnType() != null) {
                (tree.getModifiers().getFlags().contains(Modifier.PUBLIC) ? publicNames : privateNames).add(name);
            }
            if (Set.of("equals", "hashCode", "toString").contains(name)) {
                wrong("6", "method " + name);
            }
            if (tree.getParameters().size() > MOST_PARAMETERS) {
                wrong("11", "the parameters of " + name);
            }
            if (lineAt(trees.getSourcePositions().getEndPosition(unit, tree)) - line(tree) >= MOST_LINES) {
                wrong("11", "the length of " + name);
            }
            called = calls.computeIfAbsent(name, key -> new TreeSet<>());
            super.visitMethod(tree, none);
            called = new TreeSet<>();
            return null;
        }

        @Override
        public Void visitMethodInvocation(MethodInvocationTree tree, Void none) {
            Tree select = tree.getMethodSelect();
            if (select instanceof IdentifierTree same) {
                called.add(same.getName().toString());
            } else if (select instanceof MemberSelectTree other) {
                called.add(other.getIdentifier().toString());
            }
            return super.visitMethodInvocation(tree, none);
        }

        @Override
        public Void visitMemberSelect(MemberSelectTree tree, Void none) {
            if (Set.of("Math", "System").contains(tree.getExpression().toString()) && !LIBRARY.contains(tree.toString())) {
                wrong("4", tree + at(tree));
            }
            return super.visitMemberSelect(tree, none);
        }

        @Override
        public Void visitNewClass(NewClassTree tree, Void none) {
            return tree.getClassBody() == null ? super.visitNewClass(tree, none) : found("2", tree);
        }

        @Override
        public Void visitBinary(BinaryTree tree, Void none) {
            for (Tree side : List.of(tree.getLeftOperand(), tree.getRightOperand())) {
                if (side instanceof LiteralTree literal && literal.getValue() instanceof String) {
                    wrong("10", tree + at(tree));
                }
            }
            return super.visitBinary(tree, none);
        }

        @Override
        public Void visitImport(ImportTree tree, Void none) {
            return found("4", tree);
        }

        @Override
        public Void visitLambdaExpression(LambdaExpressionTree tree, Void none) {
            return found("2", tree);
        }

        @Override
        public Void visitMemberReference(MemberReferenceTree tree, Void none) {
            return found("2", tree);
        }

        @Override
        public Void visitThrow(ThrowTree tree, Void none) {
            return found("6", tree);
        }

        @Override
        public Void visitTry(TryTree tree, Void none) {
            return found("6", tree);
        }

        @Override
        public Void visitSynchronized(SynchronizedTree tree, Void none) {
            return found("6", tree);
        }

        @Override
        public Void visitAssert(AssertTree tree, Void none) {
            return found("6", tree);
        }

        private Void found(String rule, Tree tree) {
            wrong(rule, tree + at(tree));
            return null;
        }

        private String at(Tree tree) {
            return " in line " + line(tree);
        }

        private long line(Tree tree) {
            return lineAt(trees.getSourcePositions().getStartPosition(unit, tree));
        }

        private long lineAt(long place) {
            return unit.getLineMap().getLineNumber(place);
        }
    }
}
