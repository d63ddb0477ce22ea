import com.sun.source.tree.AssertTree;
import com.sun.source.tree.BinaryTree;
import com.sun.source.tree.ClassTree;
import com.sun.source.tree.CompilationUnitTree;
import com.sun.source.tree.ExpressionTree;
import com.sun.source.tree.IdentifierTree;
import com.sun.source.tree.LambdaExpressionTree;
import com.sun.source.tree.LiteralTree;
import com.sun.source.tree.MemberReferenceTree;
import com.sun.source.tree.MemberSelectTree;
import com.sun.source.tree.MethodInvocationTree;
import com.sun.source.tree.MethodTree;
import com.sun.source.tree.NewArrayTree;
import com.sun.source.tree.NewClassTree;
import com.sun.source.tree.SynchronizedTree;
import com.sun.source.tree.ThrowTree;
import com.sun.source.tree.Tree;
import com.sun.source.tree.TryTree;
import com.sun.source.tree.TypeCastTree;
import com.sun.source.tree.VariableTree;
import com.sun.source.util.JavacTask;
import com.sun.source.util.TreePath;
import com.sun.source.util.TreePathScanner;
import com.sun.source.util.Trees;
import java.io.IOException;
import java.nio.file.Path;
import java.util.ArrayList;
import java.util.List;
import java.util.Map;
import java.util.Set;
import java.util.TreeMap;
import java.util.TreeSet;
import javax.lang.model.element.Element;
import javax.lang.model.element.ElementKind;
import javax.lang.model.element.ExecutableElement;
import javax.lang.model.element.Modifier;
import javax.lang.model.element.TypeElement;
import javax.lang.model.element.VariableElement;
import javax.lang.model.type.DeclaredType;
import javax.lang.model.type.TypeKind;
import javax.lang.model.type.TypeMirror;
import javax.tools.JavaCompiler;
import javax.tools.StandardJavaFileManager;
import javax.tools.ToolProvider;

/** The rules of the language that the source alone shows, as the compiler reads it. */
public final class RulesTest {
    private static final int MOST_LINES = 60;
    private static final int DEEPEST_CALL = 8;
    private static final Set<String> LIBRARY = Set.of("Arrays.copyOf", "Arrays.fill", "Math.abs", "Math.floorDiv",
            "Math.max", "Math.min");
    private static final Set<String> EXCEPTIONS = Set.of("IllegalStateException", "IllegalArgumentException",
            "IndexOutOfBoundsException", "NoSuchElementException");
    /** The rules allow some of these within bounds; the class does without them. */
    private static final Set<Tree.Kind> UNUSED_KINDS = Set.of(Tree.Kind.INSTANCE_OF, Tree.Kind.SWITCH,
            Tree.Kind.SWITCH_EXPRESSION, Tree.Kind.ANNOTATION, Tree.Kind.LABELED_STATEMENT);

    private final Check check = new Check();
    private final Map<String, Set<String>> callsOf = new TreeMap<>();
    private final Map<String, Set<String>> overriding = new TreeMap<>();

    private void ruledOut(String what) {
        check.due("what the rules leave out", "nothing", () -> what);
    }

    /** How many calls stand open at once at most, this one and those of the library among them. */
    private int depthOf(String method, List<String> open) {
        if (open.contains(method)) {
            ruledOut("recursion of " + method);
            return 0;
        }
        int deepest = 0;
        List<String> nowOpen = new ArrayList<>(open);
        nowOpen.add(method);
        for (String called : callsOf.getOrDefault(method, Set.of())) {
            deepest = Math.max(deepest, depthOf(called, nowOpen));
            for (String other : overriding.getOrDefault(called, Set.of())) {
                deepest = Math.max(deepest, depthOf(other, nowOpen));
            }
        }
        return deepest + 1;
    }

    private void callsStayFlat() {
        for (String method : callsOf.keySet()) {
            check.due("the depth of " + method + " is at most " + DEEPEST_CALL, true,
                    () -> depthOf(method, List.of()) <= DEEPEST_CALL);
        }
        check.due("the calls of encode are seen", true, () -> depthOf("PixelPress.encode", List.of()) > 5);
    }

    /** Walks through the source and notes what is called from where. */
    private final class Reader extends TreePathScanner<Void, Void> {
        private final CompilationUnitTree unit;
        private final Trees trees;
        private String caller = "";

        private Reader(CompilationUnitTree unit, Trees trees) {
            this.unit = unit;
            this.trees = trees;
        }

        private Element here() {
            return trees.getElement(getCurrentPath());
        }

        private long lineOf(long position) {
            return unit.getLineMap().getLineNumber(position);
        }

        private long lines(Tree tree) {
            return lineOf(trees.getSourcePositions().getEndPosition(unit, tree))
                    - lineOf(trees.getSourcePositions().getStartPosition(unit, tree)) + 1;
        }

        private boolean isOwn(Element element) {
            Element outer = element;
            while (outer.getEnclosingElement().getKind() != ElementKind.PACKAGE) {
                outer = outer.getEnclosingElement();
            }
            return outer.getSimpleName().contentEquals("PixelPress");
        }

        private String nameOf(Element method) {
            return method.getEnclosingElement().getSimpleName() + "." + method.getSimpleName();
        }

        private void call(Element method) {
            boolean isMade = method.getKind() == ElementKind.CONSTRUCTOR;
            boolean isListed = isMade
                    ? EXCEPTIONS.contains(method.getEnclosingElement().getSimpleName().toString())
                    : LIBRARY.contains(nameOf(method));
            boolean isObjects = nameOf(method).equals("Object.<init>");
            if (!isOwn(method) && !isListed && !isObjects) {
                ruledOut("the call of " + nameOf(method));
            }
            if (!isObjects) {
                callsOf.computeIfAbsent(caller, k -> new TreeSet<>()).add(nameOf(method));
            }
        }

        @Override
        public Void scan(Tree tree, Void nothing) {
            if (tree != null && UNUSED_KINDS.contains(tree.getKind())) {
                ruledOut(tree.toString());
            }
            return super.scan(tree, nothing);
        }

        @Override
        public Void visitClass(ClassTree tree, Void nothing) {
            Element element = here();
            boolean isOuter = element.getEnclosingElement().getKind() == ElementKind.PACKAGE;
            if (!isOuter && !element.getModifiers().containsAll(Set.of(Modifier.PRIVATE, Modifier.STATIC))) {
                ruledOut("the class " + element);
            }
            String before = caller;
            // The initialisers of fields run in the constructor.
            caller = element.getSimpleName() + ".<init>";
            super.visitClass(tree, nothing);
            caller = before;
            return null;
        }

        @Override
        public Void visitMethod(MethodTree tree, Void nothing) {
            ExecutableElement method = (ExecutableElement) here();
            String before = caller;
            caller = nameOf(method);
            check.due(caller + " is short", true, () -> lines(tree) <= MOST_LINES);
            TypeMirror above = ((TypeElement) method.getEnclosingElement()).getSuperclass();
            if (above.getKind() == TypeKind.DECLARED && method.getKind() == ElementKind.METHOD) {
                String upper = ((DeclaredType) above).asElement().getSimpleName()
                        + "." + method.getSimpleName();
                overriding.computeIfAbsent(upper, k -> new TreeSet<>()).add(caller);
            }
            callsOf.computeIfAbsent(caller, k -> new TreeSet<>());
            super.visitMethod(tree, nothing);
            caller = before;
            return null;
        }

        @Override
        public Void visitMethodInvocation(MethodInvocationTree tree, Void nothing) {
            call(here());
            return super.visitMethodInvocation(tree, nothing);
        }

        @Override
        public Void visitNewClass(NewClassTree tree, Void nothing) {
            if (tree.getClassBody() != null) {
                ruledOut(tree.toString());
            }
            call(here());
            return super.visitNewClass(tree, nothing);
        }

        @Override
        public Void visitMemberSelect(MemberSelectTree tree, Void nothing) {
            lookAtField(here(), tree);
            return super.visitMemberSelect(tree, nothing);
        }

        @Override
        public Void visitIdentifier(IdentifierTree tree, Void nothing) {
            lookAtField(here(), tree);
            return super.visitIdentifier(tree, nothing);
        }

        private void lookAtField(Element element, Tree tree) {
            boolean isField = element != null && element.getKind() == ElementKind.FIELD;
            if (isField && !element.getSimpleName().contentEquals("length") && !isOwn(element)) {
                ruledOut(tree.toString());
            }
        }

        @Override
        public Void visitVariable(VariableTree tree, Void nothing) {
            VariableElement element = (VariableElement) here();
            boolean isStatic = element.getModifiers().contains(Modifier.STATIC);
            boolean isConstant = element.getConstantValue() != null || tree.getInitializer() instanceof NewArrayTree;
            if (isStatic && (!element.getModifiers().contains(Modifier.FINAL) || !isConstant)) {
                ruledOut(tree.toString());
            }
            String type = element.asType().toString();
            boolean isOfNumbers = Set.of("int", "boolean", "char", "int[]", "char[]").contains(type);
            if (!isOfNumbers && !type.startsWith("PixelPress.")) {
                ruledOut(tree.toString());
            }
            return super.visitVariable(tree, nothing);
        }

        @Override
        public Void visitThrow(ThrowTree tree, Void nothing) {
            boolean isPlain = tree.getExpression() instanceof NewClassTree
                    && ((NewClassTree) tree.getExpression()).getArguments().stream()
                            .allMatch(argument -> argument instanceof LiteralTree);
            if (!isPlain || caller.endsWith(".<init>")) {
                ruledOut(tree.toString());
            }
            return super.visitThrow(tree, nothing);
        }

        @Override
        public Void visitBinary(BinaryTree tree, Void nothing) {
            boolean divides = tree.getKind() == Tree.Kind.DIVIDE || tree.getKind() == Tree.Kind.REMAINDER;
            if (divides && !isKnownDivisor(tree.getRightOperand())) {
                ruledOut("the divisor in " + tree);
            }
            return super.visitBinary(tree, nothing);
        }

        /** A constant that is not 0, or one of those that are looked at before they divide. */
        private boolean isKnownDivisor(ExpressionTree divisor) {
            if (divisor instanceof LiteralTree) {
                return !divisor.toString().equals("0");
            }
            Element element = trees.getElement(new TreePath(getCurrentPath(), divisor));
            if (element instanceof VariableElement && ((VariableElement) element).getConstantValue() != null) {
                return !((VariableElement) element).getConstantValue().equals(0);
            }
            return Set.of("(MAX_VALUE + 1)", "(TILE * TILE)", "(SMALL_BLOCK * SMALL_BLOCK)", "(zero + one)", "divisor",
                    "blockCells", "(float)replacedPlainSize").contains(divisor.toString());
        }

        @Override
        public Void visitLiteral(LiteralTree tree, Void nothing) {
            boolean isPlain = !(tree.getValue() instanceof String)
                    || ((String) tree.getValue()).chars().allMatch(sign -> sign >= 1 && sign <= 127);
            if (!isPlain) {
                ruledOut(tree.toString());
            }
            return super.visitLiteral(tree, nothing);
        }

        @Override
        public Void visitTypeCast(TypeCastTree tree, Void nothing) {
            if (!tree.getType().toString().equals("float")) {
                ruledOut(tree.toString());
            }
            return super.visitTypeCast(tree, nothing);
        }

        @Override
        public Void visitNewArray(NewArrayTree tree, Void nothing) {
            if (!caller.endsWith(".<init>")) {
                ruledOut(tree + " outside of a constructor");
            }
            return super.visitNewArray(tree, nothing);
        }

        @Override
        public Void visitTry(TryTree tree, Void nothing) {
            ruledOut(tree.toString());
            return null;
        }

        @Override
        public Void visitLambdaExpression(LambdaExpressionTree tree, Void nothing) {
            ruledOut(tree.toString());
            return null;
        }

        @Override
        public Void visitMemberReference(MemberReferenceTree tree, Void nothing) {
            ruledOut(tree.toString());
            return null;
        }

        @Override
        public Void visitSynchronized(SynchronizedTree tree, Void nothing) {
            ruledOut(tree.toString());
            return null;
        }

        @Override
        public Void visitAssert(AssertTree tree, Void nothing) {
            ruledOut(tree.toString());
            return null;
        }
    }

    private void read(Path source) throws IOException {
        JavaCompiler compiler = ToolProvider.getSystemJavaCompiler();
        try (StandardJavaFileManager files = compiler.getStandardFileManager(null, null, null)) {
            JavacTask task = (JavacTask) compiler.getTask(null, files, null, List.of("-proc:none"), null,
                    files.getJavaFileObjects(source));
            CompilationUnitTree unit = task.parse().iterator().next();
            task.analyze();
            new Reader(unit, Trees.instance(task)).scan(unit, null);
        }
    }

    public static void main(String[] args) throws IOException {
        RulesTest test = new RulesTest();
        test.read(Path.of(args.length > 0 ? args[0] : "src/main/java/PixelPress.java"));
        test.callsStayFlat();
        test.check.end();
    }
}
