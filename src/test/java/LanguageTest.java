import com.sun.source.tree.AssignmentTree;
import com.sun.source.tree.BlockTree;
import com.sun.source.tree.ClassTree;
import com.sun.source.tree.CompilationUnitTree;
import com.sun.source.tree.DoWhileLoopTree;
import com.sun.source.tree.EnhancedForLoopTree;
import com.sun.source.tree.ForLoopTree;
import com.sun.source.tree.MethodInvocationTree;
import com.sun.source.tree.MethodTree;
import com.sun.source.tree.NewArrayTree;
import com.sun.source.tree.NewClassTree;
import com.sun.source.tree.Tree;
import com.sun.source.tree.TypeCastTree;
import com.sun.source.tree.VariableTree;
import com.sun.source.tree.WhileLoopTree;
import com.sun.source.util.JavacTask;
import com.sun.source.util.TreePath;
import com.sun.source.util.TreePathScanner;
import com.sun.source.util.Trees;
import java.io.File;
import java.util.EnumSet;
import java.util.HashSet;
import java.util.LinkedHashMap;
import java.util.LinkedHashSet;
import java.util.List;
import java.util.Map;
import java.util.Set;
import java.util.TreeSet;
import javax.lang.model.element.Element;
import javax.lang.model.element.ExecutableElement;
import javax.lang.model.element.Modifier;
import javax.tools.JavaCompiler;
import javax.tools.StandardJavaFileManager;
import javax.tools.ToolProvider;

/**
 * The rules of LANGUAGE.md that can be read off the source's tree, as the compiler sees it. Where
 * the class needs less than a rule leaves (its types, its library, its loops), less is allowed.
 */
public final class LanguageTest {
    private static final String SOURCE = "src/main/java/PlanCabinet.java";
    private static final Set<Tree.Kind> FORBIDDEN = EnumSet.of(Tree.Kind.THROW, Tree.Kind.TRY,
        Tree.Kind.CATCH, Tree.Kind.SYNCHRONIZED, Tree.Kind.ASSERT, Tree.Kind.LAMBDA_EXPRESSION,
        Tree.Kind.MEMBER_REFERENCE, Tree.Kind.IMPORT, Tree.Kind.PACKAGE);
    private static final Set<String> LIBRARY = Set.of("java.lang.Integer.bitCount",
        "java.lang.Math.min", "java.lang.Math.max", "java.lang.System.arraycopy");
    private static final Set<String> TYPES = Set.of("int", "long", "boolean", "void");
    private static final Set<String> CONSTANT_TYPES = Set.of("int", "long", "boolean", "char", "String");
    private static final int MOST_PARAMETERS = 7;
    private static final int MOST_LINES = 60;
    private static final int MOST_CALLS_DEEP = 8;
    private static final int MOST_CLASSES = 12;
    private static final int MOST_FIELDS = 20;

    private static Trees trees;
    private static CompilationUnitTree unit;
    private static final Set<String> OWN_CLASSES = new TreeSet<>();
    private static final Map<Element, Set<Element>> CALLS = new LinkedHashMap<>();

    private LanguageTest() {
    }

    public static void main(String[] args) throws Exception {
        JavaCompiler compiler = ToolProvider.getSystemJavaCompiler();
        try (StandardJavaFileManager files = compiler.getStandardFileManager(null, null, null)) {
            JavacTask task = (JavacTask) compiler.getTask(null, files, null, List.of("-proc:none"),
                null, files.getJavaFileObjects(new File(SOURCE)));
            trees = Trees.instance(task);
            unit = task.parse().iterator().next();
            task.analyze();
            new ClassNames().scan(unit, null);
            new Rules().scan(unit, null);
        }
        Check.holds("11: at most twelve classes, not " + OWN_CLASSES.size(),
            OWN_CLASSES.size() <= MOST_CLASSES);
        callsAreNoRecursion();
        callsAreNotDeep();
        Check.end("LanguageTest");
    }

    /** Each round takes those away that call nothing that is left: in a ring none can be taken. */
    private static void callsAreNoRecursion() {
        Set<Element> left = new HashSet<>(CALLS.keySet());
        for (int round = 0; round < CALLS.size(); round++) {
            left.removeIf(method -> CALLS.get(method).stream().noneMatch(left::contains));
        }
        Check.holds("8: no recursion among " + left, left.isEmpty());
    }

    private static void callsAreNotDeep() {
        Map<Element, Integer> depths = new LinkedHashMap<>();
        int deepest = 0;
        for (int round = 0; round <= CALLS.size(); round++) {
            for (Map.Entry<Element, Set<Element>> entry : CALLS.entrySet()) {
                int below = entry.getValue().stream()
                    .mapToInt(called -> CALLS.containsKey(called) ? depths.getOrDefault(called, 1) : 1)
                    .max().orElse(0);
                depths.put(entry.getKey(), Math.min(1 + below, 1 + CALLS.size()));
                deepest = Math.max(deepest, depths.get(entry.getKey()));
            }
        }
        System.out.println("calls go " + deepest + " deep");
        Check.holds("11: calls go at most eight deep, not " + deepest, deepest <= MOST_CALLS_DEEP);
        Check.holds("calls are seen at all", deepest > 2);
    }

    private static final class ClassNames extends TreePathScanner<Void, Void> {
        @Override
        public Void visitClass(ClassTree tree, Void nothing) {
            OWN_CLASSES.add(tree.getSimpleName().toString());
            return super.visitClass(tree, nothing);
        }
    }

    private static final class Rules extends TreePathScanner<Void, Void> {
        @Override
        public Void scan(Tree tree, Void nothing) {
            if (tree != null) {
                Check.holds("6: no " + tree.getKind() + line(tree), !FORBIDDEN.contains(tree.getKind()));
            }
            return super.scan(tree, nothing);
        }

        @Override
        public Void visitClass(ClassTree tree, Void nothing) {
            Tree around = getCurrentPath().getParentPath().getLeaf();
            Set<Modifier> modifiers = tree.getModifiers().getFlags();
            String name = tree.getSimpleName().toString();
            if (around instanceof CompilationUnitTree) {
                Check.holds("1: one class, public and final", name.equals("PlanCabinet")
                    && modifiers.containsAll(Set.of(Modifier.PUBLIC, Modifier.FINAL)));
            } else {
                Check.holds("2: " + name + " is no local or anonymous class", around instanceof ClassTree);
                Check.holds("2: " + name + " is static", modifiers.contains(Modifier.STATIC));
                Check.holds("1: " + name + " is private or package-visible",
                    !modifiers.contains(Modifier.PUBLIC) && !modifiers.contains(Modifier.PROTECTED));
            }
            long fields = tree.getMembers().stream().filter(member -> member instanceof VariableTree v
                && !v.getModifiers().getFlags().contains(Modifier.STATIC)).count();
            Check.holds("11: at most twenty fields in " + name + ", not " + fields, fields <= MOST_FIELDS);
            Check.holds("5: no initialiser block in " + name,
                tree.getMembers().stream().noneMatch(member -> member instanceof BlockTree));
            return super.visitClass(tree, nothing);
        }

        @Override
        public Void visitMethod(MethodTree tree, Void nothing) {
            String name = tree.getName().toString();
            CALLS.putIfAbsent(trees.getElement(getCurrentPath()), new LinkedHashSet<>());
            long lines = endLine(tree) - startLine(tree) + 1;
            Check.holds("11: " + name + " has at most sixty lines, not " + lines, lines <= MOST_LINES);
            Check.holds("11: " + name + " has at most seven parameters",
                tree.getParameters().size() <= MOST_PARAMETERS);
            if (tree.getReturnType() != null) {
                isAllowedType(tree.getReturnType());
            }
            return super.visitMethod(tree, nothing);
        }

        @Override
        public Void visitVariable(VariableTree tree, Void nothing) {
            isAllowedType(tree.getType());
            Set<Modifier> modifiers = tree.getModifiers().getFlags();
            if (modifiers.contains(Modifier.STATIC)) {
                Check.holds("5: " + tree.getName() + " is a constant", modifiers.contains(Modifier.FINAL)
                    && CONSTANT_TYPES.contains(tree.getType().toString()));
            }
            return super.visitVariable(tree, nothing);
        }

        @Override
        public Void visitMethodInvocation(MethodInvocationTree tree, Void nothing) {
            ExecutableElement called = (ExecutableElement) trees.getElement(getCurrentPath());
            // A constructor's own call of its super class is written by the compiler.
            if (!called.getSimpleName().contentEquals("<init>")) {
                String owner = called.getEnclosingElement().toString();
                boolean own = owner.equals("PlanCabinet") || owner.startsWith("PlanCabinet.");
                Check.holds("4: " + owner + "." + called.getSimpleName() + line(tree),
                    own || LIBRARY.contains(owner + "." + called.getSimpleName()));
                addCall(called);
            }
            return super.visitMethodInvocation(tree, nothing);
        }

        @Override
        public Void visitNewClass(NewClassTree tree, Void nothing) {
            Check.holds("4: " + tree.getIdentifier() + " is an own class" + line(tree),
                OWN_CLASSES.contains(tree.getIdentifier().toString()));
            addCall(trees.getElement(getCurrentPath()));
            return super.visitNewClass(tree, nothing);
        }

        @Override
        public Void visitNewArray(NewArrayTree tree, Void nothing) {
            Check.due("3: dimensions of a new array" + line(tree), 1, tree.getDimensions().size());
            return super.visitNewArray(tree, nothing);
        }

        @Override
        public Void visitTypeCast(TypeCastTree tree, Void nothing) {
            Check.holds("6: a cast among numbers" + line(tree), TYPES.contains(tree.getType().toString()));
            return super.visitTypeCast(tree, nothing);
        }

        @Override
        public Void visitForLoop(ForLoopTree tree, Void nothing) {
            boolean counts = !tree.getInitializer().isEmpty() && tree.getUpdate().size() == 1
                && tree.getInitializer().get(0) instanceof VariableTree;
            String counter = counts ? ((VariableTree) tree.getInitializer().get(0)).getName().toString() : "";
            Check.holds("9: a counter against a bound" + line(tree), counts && tree.getCondition() != null
                && tree.getCondition().toString().matches(".*\\b" + counter + " (<|<=|>|>=) .*")
                && tree.getUpdate().get(0).toString().matches(counter + "(\\+\\+|--);"));
            return super.visitForLoop(tree, nothing);
        }

        @Override
        public Void visitAssignment(AssignmentTree tree, Void nothing) {
            String target = tree.getVariable().toString();
            Element element = trees.getElement(new TreePath(getCurrentPath(),
                tree.getVariable()));
            Check.holds("5: " + target + " is not static" + line(tree),
                element == null || !element.getModifiers().contains(Modifier.STATIC));
            return super.visitAssignment(tree, nothing);
        }

        @Override
        public Void visitWhileLoop(WhileLoopTree tree, Void nothing) {
            Check.holds("9: a loop without a counter" + line(tree), false);
            return super.visitWhileLoop(tree, nothing);
        }

        @Override
        public Void visitDoWhileLoop(DoWhileLoopTree tree, Void nothing) {
            Check.holds("9: a loop without a counter" + line(tree), false);
            return super.visitDoWhileLoop(tree, nothing);
        }

        @Override
        public Void visitEnhancedForLoop(EnhancedForLoopTree tree, Void nothing) {
            Check.holds("12: a loop over an array" + line(tree),
                trees.getTypeMirror(new TreePath(getCurrentPath(),
                    tree.getExpression())).toString().endsWith("[]"));
            return super.visitEnhancedForLoop(tree, nothing);
        }

        private void addCall(Element called) {
            for (TreePath path = getCurrentPath(); path != null;
                path = path.getParentPath()) {
                if (path.getLeaf() instanceof MethodTree) {
                    CALLS.computeIfAbsent(trees.getElement(path), key -> new LinkedHashSet<>())
                        .add(called);
                }
            }
        }

        private void isAllowedType(Tree type) {
            String name = type.toString().replaceFirst("\\[\\]$", "");
            Check.holds("3: the type " + type + line(type), TYPES.contains(name) || OWN_CLASSES.contains(name));
        }

        private String line(Tree tree) {
            return " in line " + startLine(tree);
        }

        private long startLine(Tree tree) {
            long start = trees.getSourcePositions().getStartPosition(unit, tree);
            return start < 0 ? 0 : unit.getLineMap().getLineNumber(start);
        }

        private long endLine(Tree tree) {
            long end = trees.getSourcePositions().getEndPosition(unit, tree);
            return end < 0 ? 0 : unit.getLineMap().getLineNumber(end);
        }
    }
}
