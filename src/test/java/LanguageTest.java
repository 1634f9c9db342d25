import com.sun.source.tree.AnnotationTree;
import com.sun.source.tree.AssertTree;
import com.sun.source.tree.BinaryTree;
import com.sun.source.tree.ClassTree;
import com.sun.source.tree.CompilationUnitTree;
import com.sun.source.tree.CompoundAssignmentTree;
import com.sun.source.tree.DoWhileLoopTree;
import com.sun.source.tree.ExpressionTree;
import com.sun.source.tree.ForLoopTree;
import com.sun.source.tree.LambdaExpressionTree;
import com.sun.source.tree.MemberReferenceTree;
import com.sun.source.tree.MethodInvocationTree;
import com.sun.source.tree.MethodTree;
import com.sun.source.tree.NewArrayTree;
import com.sun.source.tree.NewClassTree;
import com.sun.source.tree.SwitchExpressionTree;
import com.sun.source.tree.SynchronizedTree;
import com.sun.source.tree.ThrowTree;
import com.sun.source.tree.Tree;
import com.sun.source.tree.TryTree;
import com.sun.source.tree.VariableTree;
import com.sun.source.tree.WhileLoopTree;
import com.sun.source.util.JavacTask;
import com.sun.source.util.TreePath;
import com.sun.source.util.TreePathScanner;
import com.sun.source.util.Trees;
import java.io.IOException;
import java.nio.file.Path;
import java.util.ArrayList;
import java.util.Collections;
import java.util.List;
import java.util.Map;
import java.util.Set;
import java.util.TreeMap;
import java.util.TreeSet;
import javax.lang.model.element.Element;
import javax.lang.model.element.Modifier;
import javax.lang.model.type.TypeKind;
import javax.tools.JavaCompiler;
import javax.tools.StandardJavaFileManager;
import javax.tools.ToolProvider;

/**
 * The rules of LANGUAGE.md that the compiler's tree of the program shows: how deep calls go, what is made where, which
 * library is used. The program keeps inside narrower bounds than the rules in some places (no recursion, no try, no
 * division of whole numbers, nothing made outside constructors and throw); a test that fails there asks to look at the
 * rule, not to give up the plan.
 */
public final class LanguageTest {
    private static final Path SOURCE = Path.of("src/main/java/ParcelRailway.java");
    private static final Set<String> LIBRARY = Set.of("String.length", "String.charAt", "Math.min");
    private static final Set<String> EXCEPTIONS = Set.of("IllegalStateException", "IllegalArgumentException",
            "IndexOutOfBoundsException", "NoSuchElementException");
    private static final int METHOD_LINES = 60;
    private static final int PARAMETERS = 7;
    private static final int CLASSES = 12;
    private static final int FIELDS = 20;
    private static final int CALL_DEPTH = 8;

    /** Walks over the program and notes what the rules speak of. */
    private static final class Walk extends TreePathScanner<Void, Void> {
        final Trees trees;
        final CompilationUnitTree unit;
        final List<String> faults = new ArrayList<>();
        final Map<String, Set<String>> calls = new TreeMap<>();
        final Map<String, Integer> fields = new TreeMap<>();
        String owner = "";
        String method = "";
        boolean isConstructor;

        Walk(Trees trees, CompilationUnitTree unit) {
            this.trees = trees;
            this.unit = unit;
        }

        private void fault(String what, Tree tree) {
            long start = trees.getSourcePositions().getStartPosition(unit, tree);
            faults.add("line " + unit.getLineMap().getLineNumber(start) + ": " + what);
        }

        private long lines(Tree tree) {
            long start = trees.getSourcePositions().getStartPosition(unit, tree);
            long end = trees.getSourcePositions().getEndPosition(unit, tree);
            return start < 0 || end < 0 ? 0
                    : unit.getLineMap().getLineNumber(end) - unit.getLineMap().getLineNumber(start) + 1;
        }

        @Override
        public Void visitClass(ClassTree tree, Void nothing) {
            String outer = owner;
            owner = tree.getSimpleName().toString();
            fields.put(owner, 0);
            if (owner.isEmpty()) {
                fault("rule 2: an anonymous class", tree);
            }
            super.visitClass(tree, nothing);
            owner = outer;
            return null;
        }

        @Override
        public Void visitMethod(MethodTree tree, Void nothing) {
            isConstructor = tree.getName().contentEquals("<init>");
            method = owner + "." + tree.getName();
            calls.computeIfAbsent(method, key -> new TreeSet<>());
            if (lines(tree) > METHOD_LINES) {
                fault("rule 11: " + method + " is long", tree);
            }
            if (tree.getParameters().size() > PARAMETERS) {
                fault("rule 11: " + method + " has many parameters", tree);
            }
            super.visitMethod(tree, nothing);
            method = "";
            return null;
        }

        @Override
        public Void visitVariable(VariableTree tree, Void nothing) {
            boolean isField = getCurrentPath().getParentPath().getLeaf() instanceof ClassTree;
            Set<Modifier> modifiers = tree.getModifiers().getFlags();
            if (!isField) {
                return super.visitVariable(tree, nothing);
            }
            if (!modifiers.contains(Modifier.STATIC)) {
                fields.merge(owner, 1, Integer::sum);
            } else if (!modifiers.contains(Modifier.FINAL) || !tree.getType().toString().matches("int|String")) {
                fault("rule 5: " + tree.getName(), tree);
            }
            // A field's initialiser runs in the constructor.
            method = owner + ".<init>";
            isConstructor = true;
            calls.computeIfAbsent(method, key -> new TreeSet<>());
            super.visitVariable(tree, nothing);
            method = "";
            return null;
        }

        private static String nameOf(Element called) {
            return called.getEnclosingElement().getSimpleName() + "." + called.getSimpleName();
        }

        private boolean isOwn(Element element) {
            for (Element e = element; e != null; e = e.getEnclosingElement()) {
                if (e.getSimpleName().contentEquals("ParcelRailway")) {
                    return true;
                }
            }
            return false;
        }

        @Override
        public Void visitMethodInvocation(MethodInvocationTree tree, Void nothing) {
            Element called = trees.getElement(getCurrentPath());
            String name = nameOf(called);
            if (isOwn(called)) {
                calls.get(method).add(name);
            } else if (!LIBRARY.contains(name) && !name.equals("Object.<init>")) {
                fault("rule 4: " + name, tree);
            }
            return super.visitMethodInvocation(tree, nothing);
        }

        @Override
        public Void visitNewClass(NewClassTree tree, Void nothing) {
            Element called = trees.getElement(getCurrentPath());
            boolean isThrown = getCurrentPath().getParentPath().getLeaf() instanceof ThrowTree;
            if (isOwn(called)) {
                calls.get(method).add(nameOf(called));
            }
            if (!isThrown && !(isConstructor && isOwn(called))) {
                fault("rule 12: an object is made outside constructors", tree);
            }
            return super.visitNewClass(tree, nothing);
        }

        @Override
        public Void visitNewArray(NewArrayTree tree, Void nothing) {
            if (!isConstructor) {
                fault("rule 12: an array is made outside constructors", tree);
            }
            for (ExpressionTree length : tree.getDimensions()) {
                if (!length.toString().matches("[A-Z_]+( \\* [A-Z_]+)?")) {
                    fault("rule 7: the length of an array is no constant", tree);
                }
            }
            return super.visitNewArray(tree, nothing);
        }

        @Override
        public Void visitThrow(ThrowTree tree, Void nothing) {
            if (!(tree.getExpression() instanceof NewClassTree) || !isAllowed((NewClassTree) tree.getExpression())) {
                fault("rule 6: a throw", tree);
            }
            if (isConstructor) {
                fault("rule 6: a throw in a constructor", tree);
            }
            return super.visitThrow(tree, nothing);
        }

        private static boolean isAllowed(NewClassTree made) {
            boolean hasWrittenText = made.getArguments().stream()
                    .allMatch(argument -> argument.getKind() == Tree.Kind.STRING_LITERAL);
            return hasWrittenText && EXCEPTIONS.contains(made.getIdentifier().toString());
        }

        private boolean isOfType(ExpressionTree tree, TypeKind... kinds) {
            TypeKind kind = trees.getTypeMirror(new TreePath(getCurrentPath(), tree)).getKind();
            return List.of(kinds).contains(kind);
        }

        @Override
        public Void visitBinary(BinaryTree tree, Void nothing) {
            boolean isDivision = tree.getKind() == Tree.Kind.DIVIDE || tree.getKind() == Tree.Kind.REMAINDER;
            if (isDivision && !isOfType(tree.getRightOperand(), TypeKind.DOUBLE, TypeKind.FLOAT)) {
                fault("rule 7: a division of whole numbers", tree);
            }
            if (isOfType(tree.getLeftOperand(), TypeKind.DECLARED) && !tree.getRightOperand().toString().equals("null")) {
                fault("rules 6 and 10: " + tree, tree);
            }
            return super.visitBinary(tree, nothing);
        }

        @Override
        public Void visitCompoundAssignment(CompoundAssignmentTree tree, Void nothing) {
            if (!isOfType(tree.getVariable(), TypeKind.INT) || tree.getKind() == Tree.Kind.DIVIDE_ASSIGNMENT
                    || tree.getKind() == Tree.Kind.REMAINDER_ASSIGNMENT) {
                fault("rules 7 and 10: " + tree, tree);
            }
            return super.visitCompoundAssignment(tree, nothing);
        }

        private void checkEnd(ExpressionTree condition, Tree loop) {
            if (condition == null || !condition.toString().contains("<") && !condition.toString().contains(">=")) {
                fault("rule 9: a loop without a bound", loop);
            }
        }

        @Override
        public Void visitForLoop(ForLoopTree tree, Void nothing) {
            checkEnd(tree.getCondition(), tree);
            return super.visitForLoop(tree, nothing);
        }

        @Override
        public Void visitWhileLoop(WhileLoopTree tree, Void nothing) {
            checkEnd(tree.getCondition(), tree);
            return super.visitWhileLoop(tree, nothing);
        }

        @Override
        public Void visitDoWhileLoop(DoWhileLoopTree tree, Void nothing) {
            checkEnd(tree.getCondition(), tree);
            return super.visitDoWhileLoop(tree, nothing);
        }

        @Override
        public Void visitLambdaExpression(LambdaExpressionTree tree, Void nothing) {
            fault("rule 2: a lambda", tree);
            return null;
        }

        @Override
        public Void visitMemberReference(MemberReferenceTree tree, Void nothing) {
            fault("rule 2: a method reference", tree);
            return null;
        }

        @Override
        public Void visitTry(TryTree tree, Void nothing) {
            fault("a try: the program needs none", tree);
            return null;
        }

        @Override
        public Void visitSynchronized(SynchronizedTree tree, Void nothing) {
            fault("rule 6: synchronized", tree);
            return null;
        }

        @Override
        public Void visitAssert(AssertTree tree, Void nothing) {
            fault("rule 6: assert", tree);
            return null;
        }

        @Override
        public Void visitSwitchExpression(SwitchExpressionTree tree, Void nothing) {
            fault("rule 10: a switch that is an expression", tree);
            return null;
        }

        @Override
        public Void visitAnnotation(AnnotationTree tree, Void nothing) {
            fault("rule 4: an annotation", tree);
            return null;
        }
    }

    private static Walk walk() throws IOException {
        JavaCompiler compiler = ToolProvider.getSystemJavaCompiler();
        try (StandardJavaFileManager files = compiler.getStandardFileManager(null, null, null)) {
            JavacTask task = (JavacTask) compiler.getTask(null, files, null, List.of("-proc:none"), null,
                    files.getJavaFileObjects(SOURCE));
            CompilationUnitTree unit = task.parse().iterator().next();
            task.analyze();
            Walk walk = new Walk(Trees.instance(task), unit);
            walk.scan(unit, null);
            return walk;
        }
    }

    /** The methods that stand open at once below this one, itself counted; a method that calls itself has no end. */
    private static int depthOf(String method, Map<String, Set<String>> calls, List<String> open) {
        if (open.contains(method)) {
            Check.same("rule 8", "no recursion", open + " calls " + method);
            return 0;
        }
        open.add(method);
        int deepest = 0;
        for (String called : calls.getOrDefault(method, Collections.emptySet())) {
            deepest = Math.max(deepest, depthOf(called, calls, open));
        }
        open.remove(method);
        return deepest + 1;
    }

    public static void main(String[] args) throws IOException {
        Walk walk = walk();
        for (String fault : walk.faults) {
            Check.same("the program", "within LANGUAGE.md", fault);
        }
        Check.holds(0, "rule 11: few classes", true, () -> walk.fields.size() <= CLASSES);
        walk.fields.forEach((name, count) ->
                Check.holds(0, "rule 11: few fields in " + name, true, () -> count <= FIELDS));
        for (String method : walk.calls.keySet()) {
            int depth = depthOf(method, walk.calls, new ArrayList<>());
            Check.holds(0, "rule 11: " + method + " goes " + depth + " deep", true, () -> depth <= CALL_DEPTH);
        }
        Check.holds(0, "the walk sees the program", true, () -> walk.calls.size() > 150
                && walk.calls.get("State.passMinute").contains("State.arrive")
                && walk.fields.get("ParcelRailway") > 5);
        Check.finish("LanguageTest");
    }
}
