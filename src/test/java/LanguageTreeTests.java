import com.sun.source.tree.BinaryTree;
import com.sun.source.tree.ClassTree;
import com.sun.source.tree.CompilationUnitTree;
import com.sun.source.tree.CompoundAssignmentTree;
import com.sun.source.tree.DoWhileLoopTree;
import com.sun.source.tree.ForLoopTree;
import com.sun.source.tree.InstanceOfTree;
import com.sun.source.tree.LambdaExpressionTree;
import com.sun.source.tree.MemberReferenceTree;
import com.sun.source.tree.MethodInvocationTree;
import com.sun.source.tree.MethodTree;
import com.sun.source.tree.NewClassTree;
import com.sun.source.tree.Tree;
import com.sun.source.tree.TypeCastTree;
import com.sun.source.tree.VariableTree;
import com.sun.source.tree.WhileLoopTree;
import com.sun.source.util.JavacTask;
import com.sun.source.util.TreePath;
import com.sun.source.util.TreePathScanner;
import com.sun.source.util.Trees;
import java.io.IOException;
import java.nio.file.Path;
import java.util.HashSet;
import java.util.List;
import java.util.Map;
import java.util.Set;
import java.util.TreeMap;
import java.util.TreeSet;
import javax.lang.model.element.Element;
import javax.lang.model.element.Modifier;
import javax.lang.model.type.TypeMirror;
import javax.tools.JavaCompiler;
import javax.tools.StandardJavaFileManager;
import javax.tools.ToolProvider;

/** What of LANGUAGE.md can be seen in the source as the compiler reads it: who calls whom, of which types all is. */
public final class LanguageTreeTests {
    private static final String OWN = "LoserKeepsTheBoard", ALL_CALLED = "java.lang.Object.<init>";
    private static final int MOST_DEEP = 8;
    private static final Set<String> NUMBERS =
        Set.of("int", "long", "short", "byte", "char", "boolean", "double", "float");
    private static final Set<String> LIBRARY = Set.of(
        "String.length", "String.charAt", "String.isEmpty", "String.equals", "String.indexOf", "String.substring",
        "String.toCharArray", "Integer.bitCount", "Integer.compare", "Integer.max", "Integer.min", "Math.abs",
        "Math.max", "Math.min", "Math.floorDiv", "Math.floorMod", "System.arraycopy");

    private static int passed;
    private static int failed;

    private final Trees trees;
    private final Map<String, Set<String>> calls = new TreeMap<>();
    private final Map<String, Set<Modifier>> modifiers = new TreeMap<>();

    private LanguageTreeTests(Trees trees) {
        this.trees = trees;
    }

    private static void due(String what, boolean holds) {
        if (holds) {
            passed++;
        } else {
            failed++;
            System.out.println(what + " is not as LANGUAGE.md wants it");
        }
    }

    public static void main(String[] args) throws IOException {
        Path source = Path.of(args.length > 0 ? args[0] : "src/main/java/LoserKeepsTheBoard.java");
        JavaCompiler compiler = ToolProvider.getSystemJavaCompiler();
        try (StandardJavaFileManager files = compiler.getStandardFileManager(null, null, null)) {
            JavacTask task = (JavacTask) compiler.getTask(null, files, null, List.of("-proc:none"), null,
                files.getJavaFileObjects(source));
            Iterable<? extends CompilationUnitTree> units = task.parse();
            task.analyze();
            LanguageTreeTests tests = new LanguageTreeTests(Trees.instance(task));
            for (CompilationUnitTree unit : units) {
                tests.new Reading().scan(unit, null);
            }
            tests.recursion();
            tests.depth();
        }
        System.out.println("LanguageTreeTests: " + passed + " passed, " + failed + " failed");
        if (failed != 0) {
            System.exit(1);
        }
    }

    // ---- rules 2 to 6, 9, 10: what stands in the methods

    private final class Reading extends TreePathScanner<Void, Void> {
        private String method = "";

        private String line(Tree tree) {
            CompilationUnitTree unit = getCurrentPath().getCompilationUnit();
            long at = trees.getSourcePositions().getStartPosition(unit, tree);
            return "line " + unit.getLineMap().getLineNumber(at) + " (" + tree.getKind() + ")";
        }

        private String typeOf(Tree tree) {
            TypeMirror type = trees.getTypeMirror(new TreePath(getCurrentPath(), tree));
            return type == null ? "" : type.toString();
        }

        private boolean isAllowed(String type) {
            String bare = type.replace("[]", "");
            boolean isRowOfRows = type.length() - bare.length() > 2;
            boolean isNumber = NUMBERS.contains(bare) && type.length() - bare.length() <= 4;
            return isNumber || !isRowOfRows && (bare.equals("java.lang.String") || bare.startsWith(OWN));
        }

        @Override
        public Void visitClass(ClassTree tree, Void nothing) {
            Tree outside = getCurrentPath().getParentPath().getLeaf();
            due(line(tree) + " stands in a class", outside instanceof ClassTree || outside instanceof CompilationUnitTree);
            return super.visitClass(tree, nothing);
        }

        @Override
        public Void visitMethod(MethodTree tree, Void nothing) {
            Element element = trees.getElement(getCurrentPath());
            method = name(element);
            calls.putIfAbsent(method, new TreeSet<>());
            modifiers.put(method, element.getModifiers());
            if (tree.getReturnType() != null && !tree.getReturnType().toString().equals("void")) {
                due(line(tree) + " answers", isAllowed(typeOf(tree.getReturnType())));
            }
            super.visitMethod(tree, nothing);
            method = "";
            return null;
        }

        @Override
        public Void visitVariable(VariableTree tree, Void nothing) {
            Element element = trees.getElement(getCurrentPath());
            due(line(tree) + " is of a type", isAllowed(element.asType().toString()));
            if (element.getModifiers().contains(Modifier.STATIC)) {
                due(line(tree) + " is a constant", element.getModifiers().contains(Modifier.FINAL)
                    && List.of("int", "long", "java.lang.String").contains(element.asType().toString()));
            }
            return super.visitVariable(tree, nothing);
        }

        @Override
        public Void visitMethodInvocation(MethodInvocationTree tree, Void nothing) {
            calls(trees.getElement(getCurrentPath()), tree);
            return super.visitMethodInvocation(tree, nothing);
        }

        @Override
        public Void visitNewClass(NewClassTree tree, Void nothing) {
            due(line(tree) + " has no body", tree.getClassBody() == null);
            calls(trees.getElement(getCurrentPath()), tree);
            return super.visitNewClass(tree, nothing);
        }

        private void calls(Element called, Tree tree) {
            String name = name(called);
            if (name.startsWith(OWN)) {
                calls.computeIfAbsent(method, key -> new TreeSet<>()).add(name);
            } else if (!name.equals(ALL_CALLED)) {
                due(line(tree) + " calls " + name, LIBRARY.contains(name.replace("java.lang.", "")));
            }
        }

        @Override
        public Void visitTypeCast(TypeCastTree tree, Void nothing) {
            due(line(tree) + " casts", NUMBERS.contains(tree.getType().toString()));
            return super.visitTypeCast(tree, nothing);
        }

        @Override
        public Void visitInstanceOf(InstanceOfTree tree, Void nothing) {
            due(line(tree) + " asks for an own class", typeOf(tree.getType()).startsWith(OWN));
            return super.visitInstanceOf(tree, nothing);
        }

        @Override
        public Void visitBinary(BinaryTree tree, Void nothing) {
            boolean isText = typeOf(tree.getLeftOperand()).equals("java.lang.String")
                || typeOf(tree.getRightOperand()).equals("java.lang.String");
            due(line(tree) + " is of no text", !isText);
            return super.visitBinary(tree, nothing);
        }

        @Override
        public Void visitCompoundAssignment(CompoundAssignmentTree tree, Void nothing) {
            due(line(tree) + " is of no text", !typeOf(tree.getVariable()).equals("java.lang.String"));
            return super.visitCompoundAssignment(tree, nothing);
        }

        @Override
        public Void visitForLoop(ForLoopTree tree, Void nothing) {
            due(line(tree) + " counts against a bound", tree.getCondition() != null
                && tree.getInitializer().size() == 1 && tree.getUpdate().size() == 1
                && (tree.getCondition().toString().contains("<") || tree.getCondition().toString().contains(">")));
            return super.visitForLoop(tree, nothing);
        }

        @Override
        public Void visitWhileLoop(WhileLoopTree tree, Void nothing) {
            due(line(tree) + " has a bound in its own lines", false);
            return super.visitWhileLoop(tree, nothing);
        }

        @Override
        public Void visitDoWhileLoop(DoWhileLoopTree tree, Void nothing) {
            due(line(tree) + " has a bound in its own lines", false);
            return super.visitDoWhileLoop(tree, nothing);
        }

        @Override
        public Void visitLambdaExpression(LambdaExpressionTree tree, Void nothing) {
            due(line(tree), false);
            return super.visitLambdaExpression(tree, nothing);
        }

        @Override
        public Void visitMemberReference(MemberReferenceTree tree, Void nothing) {
            due(line(tree), false);
            return super.visitMemberReference(tree, nothing);
        }
    }

    private static String name(Element element) {
        return element.getEnclosingElement() + "." + element.getSimpleName();
    }

    // ---- rules 8 and 11: who calls whom

    /** All that a call of this one can come to. */
    private Set<String> reached(String from) {
        Set<String> reached = new HashSet<>();
        List<String> open = new java.util.ArrayList<>(calls.getOrDefault(from, Set.of()));
        while (!open.isEmpty()) {
            String next = open.remove(open.size() - 1);
            if (reached.add(next)) {
                open.addAll(calls.getOrDefault(next, Set.of()));
            }
        }
        return reached;
    }

    private void recursion() {
        for (String one : calls.keySet()) {
            Set<Modifier> own = modifiers.getOrDefault(one, Set.of());
            if (calls.get(one).contains(one)) {
                due(one + ", which calls itself", own.containsAll(Set.of(Modifier.PRIVATE, Modifier.STATIC)));
            } else if (reached(one).contains(one)) {
                due(one + ", which calls others that call it", own.contains(Modifier.PRIVATE));
            }
        }
    }

    private void depth() {
        for (String one : calls.keySet()) {
            due(one + " with all below it", deep(one, new HashSet<>()) <= MOST_DEEP);
        }
    }

    /** How deep calls go from here; methods that call one another count as one. */
    private int deep(String one, Set<String> above) {
        Set<String> group = new TreeSet<>(Set.of(one));
        for (String other : reached(one)) {
            if (reached(other).contains(one)) {
                group.add(other);
            }
        }
        int deepest = 0;
        for (String member : group) {
            for (String next : calls.getOrDefault(member, Set.of())) {
                if (!group.contains(next) && !above.contains(next)) {
                    Set<String> further = new HashSet<>(above);
                    further.addAll(group);
                    deepest = Math.max(deepest, deep(next, further));
                }
            }
        }
        return deepest + 1;
    }
}
