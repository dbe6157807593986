import com.sun.source.tree.AssertTree;
import com.sun.source.tree.BinaryTree;
import com.sun.source.tree.ClassTree;
import com.sun.source.tree.CompilationUnitTree;
import com.sun.source.tree.LambdaExpressionTree;
import com.sun.source.tree.MemberReferenceTree;
import com.sun.source.tree.MethodInvocationTree;
import com.sun.source.tree.MethodTree;
import com.sun.source.tree.NewClassTree;
import com.sun.source.tree.SynchronizedTree;
import com.sun.source.tree.ThrowTree;
import com.sun.source.tree.Tree;
import com.sun.source.tree.TryTree;
import com.sun.source.tree.VariableTree;
import com.sun.source.util.JavacTask;
import com.sun.source.util.SourcePositions;
import com.sun.source.util.TreePath;
import com.sun.source.util.TreePathScanner;
import com.sun.source.util.Trees;
import java.io.File;
import java.io.IOException;
import java.util.HashMap;
import java.util.HashSet;
import java.util.Map;
import java.util.Set;
import java.util.TreeSet;
import javax.lang.model.element.Element;
import javax.lang.model.element.ElementKind;
import javax.lang.model.element.Modifier;
import javax.tools.JavaCompiler;
import javax.tools.StandardJavaFileManager;
import javax.tools.ToolProvider;

/** The rules of ../shared/LANGUAGE.md that can be counted: 4 to 6, 10 and 11; the face (rule 1) is FaceTest's. */
public final class LanguageTest extends TreePathScanner<Void, String> {
    private static final String SOURCE = "src/main/java/CalledTouches.java";
    private static final int MOST_CLASSES = 12;
    private static final int MOST_FIELDS = 20;
    private static final int MOST_PARAMETERS = 7;
    private static final int MOST_LINES = 60;
    private static final int DEEPEST = 8;
    /** What the program uses of the library; rule 4 lists more. */
    private static final Set<String> LIBRARY = Set.of("java.lang.String.toCharArray", "java.lang.String.length",
        "java.lang.Integer.bitCount", "java.lang.System.arraycopy", "java.util.Arrays.fill", "java.lang.Object.<init>");

    private final Trees trees;
    private final CompilationUnitTree unit;
    private final Map<String, Set<String>> calls = new HashMap<>();
    private final Set<String> faults = new TreeSet<>();
    private int classes = 0;

    private LanguageTest(JavacTask task, CompilationUnitTree unit) {
        trees = Trees.instance(task);
        this.unit = unit;
    }

    public static void main(String[] args) throws IOException {
        JavaCompiler compiler = ToolProvider.getSystemJavaCompiler();
        StandardJavaFileManager files = compiler.getStandardFileManager(null, null, null);
        JavacTask task = (JavacTask) compiler.getTask(null, files, null, null, null,
            files.getJavaFileObjects(new File(SOURCE)));
        CompilationUnitTree unit = task.parse().iterator().next();
        task.analyze();
        LanguageTest test = new LanguageTest(task, unit);
        test.scan(unit, "");
        test.countDepths();
        test.end();
    }

    private void end() {
        if (classes > MOST_CLASSES) {
            faults.add("rule 11: " + classes + " classes");
        }
        for (String fault : faults) {
            System.out.println(fault);
        }
        System.out.println("LanguageTest: " + (faults.isEmpty() ? "the rules that can be counted are kept" : "rules are broken"));
        if (!faults.isEmpty()) {
            System.exit(1);
        }
    }

    private void countDepths() {
        for (String method : calls.keySet()) {
            int depth = depth(method, new HashSet<>());
            if (depth > DEEPEST) {
                faults.add("rule 11: " + method + " goes " + depth + " calls deep");
            }
        }
    }

    /** The methods that stand open at once, the first one included; recursion (there is none now) is told as too deep. */
    private int depth(String method, Set<String> open) {
        if (!open.add(method)) {
            return DEEPEST + 1;
        }
        int below = 0;
        for (String called : calls.getOrDefault(method, Set.of())) {
            below = Math.max(below, depth(called, open));
        }
        open.remove(method);
        return below + 1;
    }

    @Override
    public Void visitClass(ClassTree tree, String method) {
        classes++;
        int fields = 0;
        for (Tree member : tree.getMembers()) {
            if (member instanceof VariableTree field) {
                Set<Modifier> modifiers = field.getModifiers().getFlags();
                boolean isStatic = modifiers.contains(Modifier.STATIC);
                fields += isStatic ? 0 : 1;
                if (isStatic && !modifiers.contains(Modifier.FINAL)) {
                    fault("rule 5: a static field that is not final", member);
                }
            } else if (member.getKind() == Tree.Kind.BLOCK) {
                fault("rule 5: an initialiser block", member);
            }
        }
        if (fields > MOST_FIELDS) {
            fault("rule 11: " + fields + " fields", tree);
        }
        return super.visitClass(tree, method);
    }

    @Override
    public Void visitMethod(MethodTree tree, String method) {
        if (tree.getParameters().size() > MOST_PARAMETERS) {
            fault("rule 11: more than seven parameters", tree);
        }
        if (line(tree, true) - line(tree, false) >= MOST_LINES) {
            fault("rule 11: a method of more than some sixty lines", tree);
        }
        return super.visitMethod(tree, name(trees.getElement(getCurrentPath())));
    }

    @Override
    public Void visitMethodInvocation(MethodInvocationTree tree, String method) {
        Element called = trees.getElement(new TreePath(getCurrentPath(), tree.getMethodSelect()));
        call(method, called, tree);
        return super.visitMethodInvocation(tree, method);
    }

    @Override
    public Void visitNewClass(NewClassTree tree, String method) {
        call(method, trees.getElement(getCurrentPath()), tree);
        return super.visitNewClass(tree, method);
    }

    private void call(String method, Element called, Tree tree) {
        String name = name(called);
        if (name.startsWith("CalledTouches")) {
            calls.computeIfAbsent(method, key -> new HashSet<>()).add(name);
        } else if (!LIBRARY.contains(name)) {
            fault("rule 4: " + name + " (if the rule lists it, let this test know it)", tree);
        }
    }

    private static String name(Element method) {
        return method.getEnclosingElement() + "." + method.getSimpleName();
    }

    @Override
    public Void visitBinary(BinaryTree tree, String method) {
        Element left = trees.getElement(new TreePath(getCurrentPath(), tree.getLeftOperand()));
        boolean isText = tree.getLeftOperand().getKind() == Tree.Kind.STRING_LITERAL
            || tree.getRightOperand().getKind() == Tree.Kind.STRING_LITERAL
            || left != null && left.getKind() == ElementKind.LOCAL_VARIABLE
                && left.asType().toString().equals("java.lang.String");
        if (isText) {
            fault("rule 10: texts joined or compared by " + tree.getKind(), tree);
        }
        return super.visitBinary(tree, method);
    }

    @Override
    public Void visitTry(TryTree tree, String method) {
        fault("rule 6: this program needs no try", tree);
        return super.visitTry(tree, method);
    }

    @Override
    public Void visitThrow(ThrowTree tree, String method) {
        fault("rule 6: no call of the face throws", tree);
        return super.visitThrow(tree, method);
    }

    @Override
    public Void visitLambdaExpression(LambdaExpressionTree tree, String method) {
        fault("rule 2: a lambda", tree);
        return super.visitLambdaExpression(tree, method);
    }

    @Override
    public Void visitMemberReference(MemberReferenceTree tree, String method) {
        fault("rule 2: a method reference", tree);
        return super.visitMemberReference(tree, method);
    }

    @Override
    public Void visitSynchronized(SynchronizedTree tree, String method) {
        fault("rule 6: synchronized", tree);
        return super.visitSynchronized(tree, method);
    }

    @Override
    public Void visitAssert(AssertTree tree, String method) {
        fault("rule 6: assert", tree);
        return super.visitAssert(tree, method);
    }

    private long line(Tree tree, boolean end) {
        SourcePositions positions = trees.getSourcePositions();
        long position = end ? positions.getEndPosition(unit, tree) : positions.getStartPosition(unit, tree);
        return position < 0 ? 0 : unit.getLineMap().getLineNumber(position);
    }

    private void fault(String fault, Tree tree) {
        faults.add(fault + ", line " + line(tree, false));
    }
}
