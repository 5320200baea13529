import com.sun.source.tree.ClassTree;
import com.sun.source.tree.CompilationUnitTree;
import com.sun.source.tree.LambdaExpressionTree;
import com.sun.source.tree.MemberReferenceTree;
import com.sun.source.tree.MethodInvocationTree;
import com.sun.source.tree.MethodTree;
import com.sun.source.tree.NewClassTree;
import com.sun.source.tree.ThrowTree;
import com.sun.source.tree.Tree;
import com.sun.source.tree.TryTree;
import com.sun.source.tree.VariableTree;
import com.sun.source.util.JavacTask;
import com.sun.source.util.TreePathScanner;
import com.sun.source.util.Trees;
import java.util.Arrays;
import java.util.LinkedHashMap;
import java.util.List;
import java.util.Map;
import java.util.Set;
import java.util.TreeMap;
import java.util.TreeSet;
import javax.lang.model.element.Element;
import javax.lang.model.element.ElementKind;
import javax.lang.model.element.Modifier;
import javax.tools.JavaCompiler;
import javax.tools.StandardJavaFileManager;
import javax.tools.ToolProvider;

/** The rules of ../shared/LANGUAGE.md that need the class as the compiler sees it: who calls whom, what is made where. */
public final class CallsTest extends TreePathScanner<Void, Void> {
    private static final String FILE = "src/main/java/TinTower.java";
    private static final Set<String> LIBRARY = new TreeSet<>(Arrays.asList("java.lang.Math.max", "java.lang.Math.min",
            "java.lang.Math.abs", "java.lang.Math.floorDiv", "java.lang.Math.floorMod", "java.lang.Integer.bitCount",
            "java.lang.System.arraycopy"));
    private static final Set<String> EXCEPTIONS = new TreeSet<>(Arrays.asList("IllegalStateException",
            "IllegalArgumentException", "IndexOutOfBoundsException", "ArithmeticException",
            "UnsupportedOperationException", "NoSuchElementException", "RuntimeException"));
    private static final int DEEPEST = 8;

    private final Trees trees;
    private final Map<Element, Set<Element>> calls = new LinkedHashMap<>();
    private final Map<String, Integer> fields = new TreeMap<>();
    private final Map<Element, Integer> depths = new LinkedHashMap<>();
    private Element method;
    private int classes;
    private CompilationUnitTree unit;

    private CallsTest(Trees trees) {
        this.trees = trees;
    }

    public static void main(String[] args) throws Exception {
        JavaCompiler compiler = ToolProvider.getSystemJavaCompiler();
        try (StandardJavaFileManager files = compiler.getStandardFileManager(null, null, null)) {
            JavacTask task = (JavacTask) compiler.getTask(null, files, null, List.of("-proc:none"), null, files.getJavaFileObjects(FILE));
            Iterable<? extends CompilationUnitTree> units = task.parse();
            task.analyze();
            CallsTest test = new CallsTest(Trees.instance(task));
            for (CompilationUnitTree unit : units) {
                test.unit = unit;
                test.scan(unit, null);
            }
            test.judge();
        }
        Check.end("CallsTest");
    }

    private void judge() {
        for (Element caller : calls.keySet()) {
            Check.due("calls below " + caller.getEnclosingElement() + "." + caller + " go deeper than " + DEEPEST,
                    Math.max(depth(caller, 1), DEEPEST), DEEPEST);
        }
        for (Map.Entry<String, Integer> count : fields.entrySet()) {
            Check.due("fields of " + count.getKey(), Math.max(count.getValue(), 20), 20);
        }
        Check.due("classes", Math.max(classes, 12), 12);
        Check.due("methods were found", calls.size() > 100 ? 1 : 0, 1);
    }

    /** How deep the calls go that begin with one; where they never end, deeper than any may. */
    private int depth(Element caller, int open) {
        if (depths.containsKey(caller)) {
            return depths.get(caller);
        }
        int deepest = 0;
        for (Element called : calls.getOrDefault(caller, Set.of())) {
            deepest = Math.max(deepest, open > 40 ? 100 : depth(called, open + 1));
        }
        depths.put(caller, deepest + 1);
        return deepest + 1;
    }

    private String where(Tree tree) {
        return "line " + unit.getLineMap().getLineNumber(trees.getSourcePositions().getStartPosition(unit, tree)) + ": ";
    }

    private void never(Tree tree, String what) {
        Check.due(where(tree) + what, 1, 0);
    }

    @Override
    public Void visitClass(ClassTree tree, Void none) {
        classes++;
        Element element = trees.getElement(getCurrentPath());
        boolean inside = element.getEnclosingElement().getKind() != ElementKind.PACKAGE;
        Check.due(where(tree) + "a class inside is static and not public", !inside || element.getModifiers().contains(Modifier.STATIC)
                && !element.getModifiers().contains(Modifier.PUBLIC) && !element.getModifiers().contains(Modifier.PROTECTED) ? 1 : 0, 1);
        return super.visitClass(tree, none);
    }

    @Override
    public Void visitMethod(MethodTree tree, Void none) {
        method = trees.getElement(getCurrentPath());
        calls.put(method, new java.util.LinkedHashSet<>());
        Check.due(where(tree) + "parameters", Math.max(tree.getParameters().size(), 7), 7);
        long first = unit.getLineMap().getLineNumber(trees.getSourcePositions().getStartPosition(unit, tree));
        long last = unit.getLineMap().getLineNumber(trees.getSourcePositions().getEndPosition(unit, tree));
        Check.due(where(tree) + "lines", Math.max(last - first + 1, 60), 60);
        super.visitMethod(tree, none);
        method = null;
        return null;
    }

    @Override
    public Void visitMethodInvocation(MethodInvocationTree tree, Void none) {
        Element called = trees.getElement(getCurrentPath());
        String owner = called.getEnclosingElement().toString();
        if (owner.startsWith("TinTower")) {
            if (method != null) {
                calls.get(method).add(called);
            }
        } else if (called.getKind() != ElementKind.CONSTRUCTOR) {
            String name = owner + "." + called.getSimpleName();
            Check.due(where(tree) + name + " is of the library's part", LIBRARY.contains(name) ? 1 : 0, 1);
        }
        return super.visitMethodInvocation(tree, none);
    }

    @Override
    public Void visitNewClass(NewClassTree tree, Void none) {
        boolean thrown = getCurrentPath().getParentPath().getLeaf() instanceof ThrowTree;
        boolean making = method == null || method.getKind() == ElementKind.CONSTRUCTOR;
        Check.due(where(tree) + "an object is made by a constructor, or thrown", thrown || making ? 1 : 0, 1);
        Element constructor = trees.getElement(getCurrentPath());
        if (method != null && constructor != null && constructor.getEnclosingElement().toString().startsWith("TinTower")) {
            calls.get(method).add(constructor);
        }
        return super.visitNewClass(tree, none);
    }

    @Override
    public Void visitThrow(ThrowTree tree, Void none) {
        boolean right = tree.getExpression() instanceof NewClassTree
                && EXCEPTIONS.contains(((NewClassTree) tree.getExpression()).getIdentifier().toString())
                && ((NewClassTree) tree.getExpression()).getArguments().size() <= 1;
        Check.due(where(tree) + "what is thrown", right ? 1 : 0, 1);
        Check.due(where(tree) + "it is thrown by look", method != null && method.getSimpleName().contentEquals("look") ? 1 : 0, 1);
        return super.visitThrow(tree, none);
    }

    @Override
    public Void visitVariable(VariableTree tree, Void none) {
        Element element = trees.getElement(getCurrentPath());
        if (element != null && element.getKind() == ElementKind.FIELD) {
            boolean constant = element.getModifiers().contains(Modifier.STATIC);
            if (constant) {
                Check.due(where(tree) + "a static field is final", element.getModifiers().contains(Modifier.FINAL) ? 1 : 0, 1);
            } else {
                fields.merge(element.getEnclosingElement().toString(), 1, Integer::sum);
            }
        }
        return super.visitVariable(tree, none);
    }

    @Override
    public Void visitLambdaExpression(LambdaExpressionTree tree, Void none) {
        never(tree, "a lambda");
        return super.visitLambdaExpression(tree, none);
    }

    @Override
    public Void visitMemberReference(MemberReferenceTree tree, Void none) {
        never(tree, "a method reference");
        return super.visitMemberReference(tree, none);
    }

    @Override
    public Void visitTry(TryTree tree, Void none) {
        never(tree, "a try");
        return super.visitTry(tree, none);
    }
}
