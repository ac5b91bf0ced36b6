import com.sun.source.tree.AssignmentTree;
import com.sun.source.tree.BinaryTree;
import com.sun.source.tree.ClassTree;
import com.sun.source.tree.CompilationUnitTree;
import com.sun.source.tree.CompoundAssignmentTree;
import com.sun.source.tree.ExpressionStatementTree;
import com.sun.source.tree.ExpressionTree;
import com.sun.source.tree.ForLoopTree;
import com.sun.source.tree.IdentifierTree;
import com.sun.source.tree.LineMap;
import com.sun.source.tree.MethodInvocationTree;
import com.sun.source.tree.MethodTree;
import com.sun.source.tree.NewClassTree;
import com.sun.source.tree.StatementTree;
import com.sun.source.tree.ThrowTree;
import com.sun.source.tree.Tree;
import com.sun.source.tree.UnaryTree;
import com.sun.source.tree.VariableTree;
import com.sun.source.util.JavacTask;
import com.sun.source.util.TreePathScanner;
import com.sun.source.util.TreeScanner;
import com.sun.source.util.Trees;
import java.io.IOException;
import java.nio.file.Path;
import java.util.ArrayDeque;
import java.util.Deque;
import java.util.HashMap;
import java.util.List;
import java.util.Map;
import java.util.Set;
import java.util.TreeSet;
import javax.lang.model.element.Element;
import javax.lang.model.element.Modifier;
import javax.tools.JavaCompiler;
import javax.tools.StandardJavaFileManager;
import javax.tools.ToolProvider;

/**
 * The class keeps to LANGUAGE.md, as far as that can be seen from its source. It is looked at more
 * strictly than the rules ask: what they allow and the class does not use is wrong here, too.
 */
public final class LanguageTest {
    private static final Path SOURCE = Path.of("src/main/java/ParserProof.java");
    private static final Set<String> TYPES = Set.of("int", "boolean", "int[]", "boolean[]", "void");
    private static final Set<String> LIBRARY = Set.of("Arrays.fill", "System.arraycopy");
    private static final Set<String> EXCEPTIONS = Set.of("IllegalArgumentException", "IllegalStateException",
        "IndexOutOfBoundsException", "UnsupportedOperationException");

    private static final int MOST_PARAMETERS = 7;
    private static final int MOST_LINES = 60;
    private static final int MOST_DEPTH = 8;
    private static final int MOST_CLASSES = 12;
    private static final int MOST_FIELDS = 20;

    private static int wrong;

    private LanguageTest() {
    }

    public static void main(String[] arguments) throws IOException {
        JavaCompiler compiler = ToolProvider.getSystemJavaCompiler();
        try (StandardJavaFileManager files = compiler.getStandardFileManager(null, null, null)) {
            JavacTask task = (JavacTask) compiler.getTask(null, files, null, List.of("--release", "17", "-proc:none"), null, files.getJavaFileObjects(SOURCE));
            CompilationUnitTree unit = task.parse().iterator().next();
            task.analyze();
            Source source = new Source(unit, Trees.instance(task));
            source.scan(unit, null);
            source.lookAtWhole();
        }
        System.out.println(wrong == 0 ? "the language is as due" : wrong + " things are outside the language");
        System.exit(wrong == 0 ? 0 : 1);
    }

    private static void need(int rule, boolean holds, String otherwise) {
        if (!holds) {
            wrong++;
            System.out.println("rule " + rule + ": " + otherwise);
        }
    }

    /** Goes through the source, and gathers who calls whom. */
    private static final class Source extends TreePathScanner<Void, Void> {
        private final CompilationUnitTree unit;
        private final Trees trees;
        private final Set<String> own = new TreeSet<>();
        private final Map<String, Set<String>> calls = new HashMap<>();
        private final Deque<String> methods = new ArrayDeque<>();
        private boolean inConstructor;
        private boolean inThrow;

        Source(CompilationUnitTree unit, Trees trees) {
            this.unit = unit;
            this.trees = trees;
            for (Tree type : unit.getTypeDecls()) {
                addNames((ClassTree) type);
            }
        }

        private void addNames(ClassTree type) {
            own.add(type.getSimpleName().toString());
            for (Tree member : type.getMembers()) {
                if (member instanceof ClassTree inside) {
                    addNames(inside);
                }
            }
        }

        void lookAtWhole() {
            need(1, unit.getPackageName() == null && unit.getTypeDecls().size() == 1, "one class without a package");
            unit.getImports().forEach(line -> need(4, line.toString().trim().equals("import java.util.Arrays;"), line.toString()));
            need(11, own.size() <= MOST_CLASSES, own.size() + " classes");
            for (String method : calls.keySet()) {
                int depth = depthOf(method, 0);
                need(8, depth < calls.size(), method + " comes to itself again");
                need(11, depth <= MOST_DEPTH, method + " goes " + depth + " deep");
            }
        }

        private int depthOf(String method, int above) {
            int deepest = 0;
            if (above < calls.size()) {
                for (String other : calls.getOrDefault(method, Set.of())) {
                    deepest = Math.max(deepest, depthOf(other, above + 1));
                }
            }
            return deepest + 1;
        }

        @Override
        public Void visitClass(ClassTree type, Void nothing) {
            String name = type.getSimpleName().toString();
            need(2, methods.isEmpty() && type.getKind() == Tree.Kind.CLASS, name + " is an ordinary class, and not a local one");
            need(2, name.equals("ParserProof") || type.getModifiers().getFlags().containsAll(Set.of(Modifier.PRIVATE, Modifier.STATIC)), name + " is private and static");
            int fields = 0;
            for (Tree member : type.getMembers()) {
                need(5, member.getKind() != Tree.Kind.BLOCK, name + " has an initialiser block");
                if (member instanceof VariableTree field && !isStatic(field)) {
                    fields++;
                }
            }
            need(11, fields <= MOST_FIELDS, name + " has " + fields + " fields");
            return super.visitClass(type, nothing);
        }

        private static boolean isStatic(VariableTree variable) {
            return variable.getModifiers().getFlags().contains(Modifier.STATIC);
        }

        @Override
        public Void visitVariable(VariableTree variable, Void nothing) {
            String type = String.valueOf(variable.getType());
            need(3, TYPES.contains(type) || own.contains(type), "a variable of the type " + type);
            if (isStatic(variable)) {
                need(5, type.equals("int") && variable.getModifiers().getFlags().contains(Modifier.FINAL), variable + " is a constant");
            }
            return super.visitVariable(variable, nothing);
        }

        @Override
        public Void visitMethod(MethodTree method, Void nothing) {
            String name = fullName(trees.getElement(getCurrentPath()));
            inConstructor = method.getReturnType() == null;
            need(3, inConstructor || TYPES.contains(method.getReturnType().toString()), name + " answers " + method.getReturnType());
            need(11, method.getParameters().size() <= MOST_PARAMETERS, name + " has too many parameters");
            need(11, lines(method) <= MOST_LINES, name + " is too long");
            methods.push(name);
            calls.putIfAbsent(name, new TreeSet<>());
            super.visitMethod(method, nothing);
            methods.pop();
            inConstructor = false;
            return null;
        }

        private long lines(Tree tree) {
            LineMap map = unit.getLineMap();
            long first = map.getLineNumber(trees.getSourcePositions().getStartPosition(unit, tree));
            return map.getLineNumber(trees.getSourcePositions().getEndPosition(unit, tree)) - first + 1;
        }

        private static String fullName(Element method) {
            return method.getEnclosingElement().getSimpleName() + "." + method.getSimpleName() + "/" + method.asType();
        }

        @Override
        public Void visitMethodInvocation(MethodInvocationTree call, Void nothing) {
            Element called = trees.getElement(getCurrentPath());
            String owner = called.getEnclosingElement().getSimpleName().toString();
            boolean isSuper = call.getMethodSelect().toString().equals("super");
            if (own.contains(owner)) {
                need(12, !inConstructor || isSuper, "a constructor calls " + call);
                calls.get(methods.peek()).add(fullName(called));
            } else {
                need(4, isSuper || LIBRARY.contains(owner + "." + called.getSimpleName()), "a call of " + owner + "." + called.getSimpleName());
            }
            return super.visitMethodInvocation(call, nothing);
        }

        @Override
        public Void visitThrow(ThrowTree thrown, Void nothing) {
            need(6, !inConstructor, "a constructor throws");
            need(6, thrown.getExpression() instanceof NewClassTree, thrown + " throws a new one");
            inThrow = true;
            super.visitThrow(thrown, nothing);
            inThrow = false;
            return null;
        }

        @Override
        public Void visitNewClass(NewClassTree made, Void nothing) {
            String type = made.getIdentifier().toString();
            need(2, made.getClassBody() == null, "a class without a name");
            if (inThrow) {
                need(6, EXCEPTIONS.contains(type), type + " is thrown");
                need(6, made.getArguments().stream().allMatch(text -> text.getKind() == Tree.Kind.STRING_LITERAL), made + " has a written text");
            } else {
                need(12, own.contains(type) && inConstructor, type + " is made outside a constructor");
                calls.get(methods.peek()).add(fullName(trees.getElement(getCurrentPath())));
            }
            return super.visitNewClass(made, nothing);
        }

        @Override
        public Void visitForLoop(ForLoopTree loop, Void nothing) {
            String counter = loop.getInitializer().size() == 1 && loop.getInitializer().get(0) instanceof VariableTree first ? first.getName().toString() : "";
            need(9, isStep(loop.getUpdate(), counter), "a loop that does not count by one: " + loop.getUpdate());
            need(9, isBounded(loop.getCondition(), counter), "a loop without a bound: " + loop.getCondition());
            need(9, !changes(loop.getStatement(), counter), "a loop that changes its own counter: " + loop.getCondition());
            return super.visitForLoop(loop, nothing);
        }

        private static boolean isStep(List<? extends ExpressionStatementTree> update, String counter) {
            return update.size() == 1 && update.get(0).getExpression().toString().equals(counter + "++");
        }

        private static boolean isBounded(ExpressionTree condition, String counter) {
            if (!(condition instanceof BinaryTree both)) {
                return false;
            }
            if (both.getKind() == Tree.Kind.CONDITIONAL_AND) {
                return isBounded(both.getLeftOperand(), counter) || isBounded(both.getRightOperand(), counter);
            }
            boolean below = both.getKind() == Tree.Kind.LESS_THAN || both.getKind() == Tree.Kind.LESS_THAN_EQUAL;
            return below && both.getLeftOperand() instanceof IdentifierTree left && left.getName().contentEquals(counter);
        }

        private static boolean changes(StatementTree body, String counter) {
            Changes changes = new Changes(counter);
            changes.scan(body, null);
            return changes.found;
        }

        /** What the rules leave, but the class does without, and what they rule out. */
        @Override
        public Void scan(Tree tree, Void nothing) {
            if (tree != null) {
                switch (tree.getKind()) {
                    case WHILE_LOOP, DO_WHILE_LOOP, ENHANCED_FOR_LOOP -> need(9, false, "another loop than one that counts");
                    case LAMBDA_EXPRESSION, MEMBER_REFERENCE -> need(2, false, tree.toString());
                    case TRY, SYNCHRONIZED, ASSERT -> need(6, false, tree.toString());
                    case DIVIDE, REMAINDER, DIVIDE_ASSIGNMENT, REMAINDER_ASSIGNMENT -> need(7, false, tree + " divides");
                    case NEW_ARRAY -> need(12, methods.isEmpty() || inConstructor, tree + " is made outside a constructor");
                    default -> { }
                }
            }
            return super.scan(tree, nothing);
        }
    }

    /** Whether a variable is given another value. */
    private static final class Changes extends TreeScanner<Void, Void> {
        private final String name;
        private boolean found;

        Changes(String name) {
            this.name = name;
        }

        private void look(Tree changed) {
            found |= changed.toString().equals(name);
        }

        @Override
        public Void visitAssignment(AssignmentTree tree, Void nothing) {
            look(tree.getVariable());
            return super.visitAssignment(tree, nothing);
        }

        @Override
        public Void visitCompoundAssignment(CompoundAssignmentTree tree, Void nothing) {
            look(tree.getVariable());
            return super.visitCompoundAssignment(tree, nothing);
        }

        @Override
        public Void visitUnary(UnaryTree tree, Void nothing) {
            boolean steps = tree.getKind().toString().contains("CREMENT");
            if (steps) {
                look(tree.getExpression());
            }
            return super.visitUnary(tree, nothing);
        }
    }
}
