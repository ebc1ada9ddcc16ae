import com.sun.source.tree.BinaryTree;
import com.sun.source.tree.CompilationUnitTree;
import com.sun.source.tree.ForLoopTree;
import com.sun.source.tree.MemberSelectTree;
import com.sun.source.tree.MethodInvocationTree;
import com.sun.source.tree.MethodTree;
import com.sun.source.tree.NewArrayTree;
import com.sun.source.tree.NewClassTree;
import com.sun.source.tree.Tree;
import com.sun.source.tree.Tree.Kind;
import com.sun.source.tree.TypeCastTree;
import com.sun.source.tree.WhileLoopTree;
import com.sun.source.util.JavacTask;
import com.sun.source.util.TreePath;
import com.sun.source.util.TreePathScanner;
import com.sun.source.util.Trees;
import java.io.File;
import java.io.IOException;
import java.util.ArrayList;
import java.util.LinkedHashMap;
import java.util.LinkedHashSet;
import java.util.List;
import java.util.Map;
import java.util.Set;
import javax.lang.model.element.ElementKind;
import javax.lang.model.element.ExecutableElement;
import javax.lang.model.element.TypeElement;
import javax.lang.model.util.ElementFilter;
import javax.lang.model.util.Elements;
import javax.tools.JavaCompiler;
import javax.tools.StandardJavaFileManager;
import javax.tools.ToolProvider;

/** Rules of LANGUAGE.md that the compiler sees: what the class calls, how deep, what it makes and where. */
public final class RuleTest extends TreePathScanner<Void, Void> {
    private static final Dues DUES = new Dues("RuleTest");
    private static final File SOURCE = new File("src/main/java/DropDealers.java");
    private static final int DEEPEST = 8;
    private static final int LONGEST = 60;
    private static final Set<String> LIBRARY = Set.of(
        "java.lang.Object.<init>", "java.lang.String.length", "java.lang.String.charAt", "java.lang.System.arraycopy",
        "java.util.Arrays.fill", "java.lang.Math.max", "java.lang.Math.min");
    private static final Set<Kind> RULED_OUT = Set.of(
        Kind.THROW, Kind.TRY, Kind.CATCH, Kind.SYNCHRONIZED, Kind.ASSERT, Kind.LAMBDA_EXPRESSION, Kind.MEMBER_REFERENCE,
        Kind.INSTANCE_OF, Kind.ANNOTATION, Kind.SWITCH_EXPRESSION);

    private final Trees trees;
    private final Elements elements;
    private final CompilationUnitTree unit;
    // Each method of the file and those that it calls, with all that may answer for them.
    private final Map<ExecutableElement, Set<ExecutableElement>> calls = new LinkedHashMap<>();
    private final Map<ExecutableElement, Integer> depths = new LinkedHashMap<>();
    private final List<TypeElement> classes = new ArrayList<>();
    private ExecutableElement inside;

    private RuleTest(JavacTask task, CompilationUnitTree unit) {
        this.trees = Trees.instance(task);
        this.elements = task.getElements();
        this.unit = unit;
        TypeElement face = elements.getTypeElement("DropDealers");
        classes.add(face);
        classes.addAll(ElementFilter.typesIn(face.getEnclosedElements()));
    }

    public static void main(String[] args) throws IOException {
        JavaCompiler compiler = ToolProvider.getSystemJavaCompiler();
        try (StandardJavaFileManager files = compiler.getStandardFileManager(null, null, null)) {
            List<String> options = List.of("--release", "17");
            JavacTask task = (JavacTask) compiler.getTask(null, files, null, options, null, files.getJavaFileObjects(SOURCE));
            CompilationUnitTree unit = task.parse().iterator().next();
            task.analyze();
            RuleTest test = new RuleTest(task, unit);
            test.scan(unit, null);
            test.found();
            test.depth();
        }
        DUES.close();
    }

    private void say(String what, Tree tree, boolean so) {
        long line = unit.getLineMap().getLineNumber(Math.max(0, trees.getSourcePositions().getStartPosition(unit, tree)));
        DUES.holds("line " + line + ": " + what, so);
    }

    @Override
    public Void scan(Tree tree, Void nothing) {
        if (tree != null) {
            say("no " + tree.getKind(), tree, !RULED_OUT.contains(tree.getKind()));
        }
        return super.scan(tree, nothing);
    }

    // Rule 11.
    @Override
    public Void visitMethod(MethodTree tree, Void nothing) {
        long start = trees.getSourcePositions().getStartPosition(unit, tree);
        long end = trees.getSourcePositions().getEndPosition(unit, tree);
        if (end > start) {
            long lines = unit.getLineMap().getLineNumber(end) - unit.getLineMap().getLineNumber(start) + 1;
            say(tree.getName() + " is short", tree, lines <= LONGEST);
        }
        say(tree.getName() + " takes few", tree, tree.getParameters().size() <= 7);
        inside = (ExecutableElement) trees.getElement(getCurrentPath());
        calls.put(inside, new LinkedHashSet<>());
        super.visitMethod(tree, nothing);
        inside = null;
        return null;
    }

    // Rule 4.
    @Override
    public Void visitMethodInvocation(MethodInvocationTree tree, Void nothing) {
        TreePath name = new TreePath(getCurrentPath(), tree.getMethodSelect());
        ExecutableElement called = (ExecutableElement) trees.getElement(name);
        String told = called.getEnclosingElement() + "." + called.getSimpleName();
        say("calls " + told, tree, told.startsWith("DropDealers") || LIBRARY.contains(told));
        say("a method's call", tree, inside != null);
        if (inside != null) {
            calls.get(inside).add(called);
            if (!isSuper(tree)) {
                calls.get(inside).addAll(overriding(called));
            }
        }
        return super.visitMethodInvocation(tree, nothing);
    }

    private static boolean isSuper(MethodInvocationTree tree) {
        return tree.getMethodSelect() instanceof MemberSelectTree select
            && select.getExpression().toString().equals("super");
    }

    private Set<ExecutableElement> overriding(ExecutableElement called) {
        Set<ExecutableElement> all = new LinkedHashSet<>();
        for (TypeElement type : classes) {
            for (ExecutableElement method : ElementFilter.methodsIn(type.getEnclosedElements())) {
                if (elements.overrides(method, called, type)) {
                    all.add(method);
                }
            }
        }
        return all;
    }

    // No call makes an object: fields and constructors alone do.
    private void madeOnce(Tree tree) {
        say("made in a constructor", tree, inside == null || inside.getKind() == ElementKind.CONSTRUCTOR);
    }

    @Override
    public Void visitNewClass(NewClassTree tree, Void nothing) {
        madeOnce(tree);
        say("no body of its own", tree, tree.getClassBody() == null);
        return super.visitNewClass(tree, nothing);
    }

    @Override
    public Void visitNewArray(NewArrayTree tree, Void nothing) {
        madeOnce(tree);
        return super.visitNewArray(tree, nothing);
    }

    // Rule 6: there is no test ahead of a cast among classes here, so there is no such cast.
    @Override
    public Void visitTypeCast(TypeCastTree tree, Void nothing) {
        say("a cast of numbers", tree, tree.getType().getKind() == Kind.PRIMITIVE_TYPE);
        return super.visitTypeCast(tree, nothing);
    }

    // Rule 10.
    @Override
    public Void visitBinary(BinaryTree tree, Void nothing) {
        boolean text = tree.getLeftOperand().getKind() == Kind.STRING_LITERAL
            || tree.getRightOperand().getKind() == Kind.STRING_LITERAL;
        say("texts are not joined", tree, !text);
        return super.visitBinary(tree, nothing);
    }

    // Rule 9.
    @Override
    public Void visitForLoop(ForLoopTree tree, Void nothing) {
        say("a loop has an end", tree, tree.getCondition() != null && !tree.getUpdate().isEmpty());
        return super.visitForLoop(tree, nothing);
    }

    @Override
    public Void visitWhileLoop(WhileLoopTree tree, Void nothing) {
        say("a loop has a bound", tree, tree.getCondition().toString().contains(" < "));
        return super.visitWhileLoop(tree, nothing);
    }

    // What the rest says means nothing if the file was not seen through.
    private void found() {
        DUES.due("the classes", classes.size(), DropDealers.class.getDeclaredClasses().length + 1);
        int methods = DropDealers.class.getDeclaredMethods().length + DropDealers.class.getDeclaredConstructors().length;
        for (Class<?> one : DropDealers.class.getDeclaredClasses()) {
            methods += one.getDeclaredMethods().length + one.getDeclaredConstructors().length;
        }
        DUES.due("the methods", calls.size(), methods);
    }

    // Rule 11, with the library's own calls counted.
    private void depth() {
        int deepest = 0;
        for (ExecutableElement method : calls.keySet()) {
            int deep = depthOf(method, new ArrayList<>());
            DUES.holds(method + " goes " + deep + " deep", deep <= DEEPEST);
            deepest = Math.max(deepest, deep);
        }
        DUES.holds("some calls are deep", deepest > 5);
    }

    private int depthOf(ExecutableElement method, List<ExecutableElement> open) {
        if (open.contains(method)) {
            DUES.holds("no recursion: " + open + " " + method, false);
            return DEEPEST + 1;
        }
        if (!depths.containsKey(method)) {
            open.add(method);
            int most = 0;
            for (ExecutableElement called : calls.getOrDefault(method, Set.of())) {
                most = Math.max(most, depthOf(called, open));
            }
            open.remove(method);
            depths.put(method, most + 1);
        }
        return depths.get(method);
    }
}
