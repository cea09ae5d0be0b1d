import com.sun.source.tree.AssertTree;
import com.sun.source.tree.BinaryTree;
import com.sun.source.tree.BlockTree;
import com.sun.source.tree.ClassTree;
import com.sun.source.tree.CompilationUnitTree;
import com.sun.source.tree.CompoundAssignmentTree;
import com.sun.source.tree.EnhancedForLoopTree;
import com.sun.source.tree.ExpressionTree;
import com.sun.source.tree.LambdaExpressionTree;
import com.sun.source.tree.LiteralTree;
import com.sun.source.tree.MemberReferenceTree;
import com.sun.source.tree.MethodInvocationTree;
import com.sun.source.tree.MethodTree;
import com.sun.source.tree.NewArrayTree;
import com.sun.source.tree.NewClassTree;
import com.sun.source.tree.SynchronizedTree;
import com.sun.source.tree.ThrowTree;
import com.sun.source.tree.Tree;
import com.sun.source.tree.TryTree;
import com.sun.source.tree.TypeCastTree;
import com.sun.source.tree.VariableTree;
import com.sun.source.util.JavacTask;
import com.sun.source.util.TreePath;
import com.sun.source.util.TreePathScanner;
import com.sun.source.util.Trees;
import java.io.IOException;
import java.nio.file.Path;
import java.util.HashMap;
import java.util.HashSet;
import java.util.List;
import java.util.Map;
import java.util.Set;
import java.util.TreeSet;
import javax.lang.model.element.Element;
import javax.lang.model.element.Modifier;
import javax.lang.model.type.TypeMirror;
import javax.tools.JavaCompiler;
import javax.tools.StandardJavaFileManager;
import javax.tools.ToolProvider;

/**
 * The rules of LANGUAGE.md that can be seen in the parsed program; each check begins with its rule's number. What the
 * rules allow and the program doesn't use (catches, lists, casts of its own classes) is refused here too: a change that
 * needs it lets it in with the test that its rule asks for.
 */
public final class LanguageTest extends TreePathScanner<Void, Void> {
    private static final Check CHECK = new Check();
    private static final Path PROGRAM = Path.of("src/main/java/OwnedClouds.java");
    private static final int DEEP = 8;
    private static final Set<String> LIBRARY = Set.of("String.length", "String.charAt", "Math.min", "Math.max",
        "Integer.bitCount", "Object.<init>");
    private static final Set<String> THROWN = Set.of("IllegalStateException", "IllegalArgumentException",
        "IndexOutOfBoundsException", "ArithmeticException", "UnsupportedOperationException", "NoSuchElementException",
        "RuntimeException");
    private static final Set<String> TYPES = Set.of("int", "long", "boolean", "int[]", "String", "OwnedClouds.Book[]");
    private static final Set<String> CONSTANTS = Set.of("int", "long", "boolean", "char", "String", "int[]", "long[]");
    /** Divisors that are no constants; before each of them stands a test. */
    private static final Set<String> DIVISORS = Set.of("all", "common", "b");

    private final Trees trees;
    private final CompilationUnitTree unit;
    private final Map<String, Set<String>> callsOf = new HashMap<>();
    private final Set<String> faceMethods = new TreeSet<>();
    private String method = "";
    private int classes;

    private LanguageTest(Trees trees, CompilationUnitTree unit) {
        this.trees = trees;
        this.unit = unit;
    }

    public static void main(String[] args) throws IOException {
        JavaCompiler compiler = ToolProvider.getSystemJavaCompiler();
        try (StandardJavaFileManager files = compiler.getStandardFileManager(null, null, null)) {
            JavacTask task = (JavacTask) compiler.getTask(null, files, null, null, null, files.getJavaFileObjects(PROGRAM));
            CompilationUnitTree unit = task.parse().iterator().next();
            task.analyze();
            LanguageTest test = new LanguageTest(Trees.instance(task), unit);
            test.scan(unit, null);
            test.depths();
            int classes = test.classes;
            CHECK.is("11: at most twelve classes", "true", Boolean.toString(classes > 1 && classes <= 12));
        }
        CHECK.end();
    }

    private void holds(String rule, boolean right) {
        CHECK.is(rule, "true", Boolean.toString(right));
    }

    private void never(String rule, Tree tree) {
        holds(rule + ": " + tree, false);
    }

    private static String shortly(Object name) {
        return name.toString().replace("java.lang.", "").replace("java.util.", "");
    }

    @Override
    public Void visitClass(ClassTree tree, Void nothing) {
        classes++;
        Set<Modifier> how = tree.getModifiers().getFlags();
        boolean inside = getCurrentPath().getParentPath().getLeaf() instanceof ClassTree;
        String name = "1: " + tree.getSimpleName();
        if (tree.getSimpleName().contentEquals("OwnedClouds")) {
            holds(name, how.equals(Set.of(Modifier.PUBLIC, Modifier.FINAL)));
        } else {
            holds(name, inside && how.contains(Modifier.STATIC) && !how.contains(Modifier.PUBLIC) && !how.contains(Modifier.PROTECTED));
        }
        holds(name + " extends and implements nothing", tree.getExtendsClause() == null && tree.getImplementsClause().isEmpty());
        long fields = tree.getMembers().stream().filter(one -> one instanceof VariableTree field
            && !field.getModifiers().getFlags().contains(Modifier.STATIC)).count();
        holds("11: twenty fields of " + tree.getSimpleName(), fields <= 20);
        for (Tree member : tree.getMembers()) {
            holds("5: no initialiser block", !(member instanceof BlockTree));
        }
        return super.visitClass(tree, nothing);
    }

    @Override
    public Void visitMethod(MethodTree tree, Void nothing) {
        Element element = trees.getElement(getCurrentPath());
        method = nameOf(element);
        callsOf.computeIfAbsent(method, name -> new TreeSet<>());
        if (element.getModifiers().contains(Modifier.PUBLIC)) {
            faceMethods.add(method);
        }
        long first = lineOf(trees.getSourcePositions().getStartPosition(unit, tree));
        long last = lineOf(trees.getSourcePositions().getEndPosition(unit, tree));
        holds("11: sixty lines of " + method, last - first < 60);
        holds("11: seven parameters of " + method, tree.getParameters().size() <= 7);
        super.visitMethod(tree, nothing);
        method = "";
        return null;
    }

    private long lineOf(long position) {
        return position < 0 ? 0 : unit.getLineMap().getLineNumber(position);
    }

    private static String nameOf(Element element) {
        return shortly(element.getEnclosingElement()) + "." + element.getSimpleName();
    }

    @Override
    public Void visitVariable(VariableTree tree, Void nothing) {
        Element element = trees.getElement(getCurrentPath());
        String type = shortly(element.asType());
        boolean own = type.startsWith("OwnedClouds.") && !type.contains("[") && !type.contains("<");
        holds("3: " + tree, TYPES.contains(type) || own);
        if (element.getModifiers().contains(Modifier.STATIC)) {
            holds("5: " + tree, element.getModifiers().contains(Modifier.FINAL) && CONSTANTS.contains(type));
        }
        return super.visitVariable(tree, nothing);
    }

    @Override
    public Void visitMethodInvocation(MethodInvocationTree tree, Void nothing) {
        used(trees.getElement(new TreePath(getCurrentPath(), tree.getMethodSelect())));
        return super.visitMethodInvocation(tree, nothing);
    }

    @Override
    public Void visitNewClass(NewClassTree tree, Void nothing) {
        holds("2: no class without a name", tree.getClassBody() == null);
        if (!(getCurrentPath().getParentPath().getLeaf() instanceof ThrowTree)) {
            used(trees.getElement(getCurrentPath()));
            holds("12: made by a constructor: " + tree, method.endsWith(".<init>"));
        }
        return super.visitNewClass(tree, nothing);
    }

    private void used(Element element) {
        String name = nameOf(element);
        boolean own = name.startsWith("OwnedClouds.");
        holds("4: " + name, own || LIBRARY.contains(name));
        if (callsOf.containsKey(method)) {
            callsOf.get(method).add(name);
        }
    }

    @Override
    public Void visitNewArray(NewArrayTree tree, Void nothing) {
        holds("12: made by a constructor: " + tree, method.endsWith(".<init>"));
        return super.visitNewArray(tree, nothing);
    }

    @Override
    public Void visitThrow(ThrowTree tree, Void nothing) {
        boolean right = tree.getExpression() instanceof NewClassTree made && THROWN.contains(made.getIdentifier().toString())
            && made.getArguments().size() <= 1 && made.getArguments().stream().allMatch(text -> text instanceof LiteralTree);
        holds("6: " + tree, right && !method.endsWith(".<init>"));
        return super.visitThrow(tree, nothing);
    }

    @Override
    public Void visitBinary(BinaryTree tree, Void nothing) {
        Tree.Kind kind = tree.getKind();
        holds("10: joined by StringBuilder: " + tree, kind != Tree.Kind.PLUS || !isText(tree.getLeftOperand(), tree));
        holds("10: joined by StringBuilder: " + tree, kind != Tree.Kind.PLUS || !isText(tree.getRightOperand(), tree));
        if (kind == Tree.Kind.EQUAL_TO || kind == Tree.Kind.NOT_EQUAL_TO) {
            holds("6: texts compared: " + tree, !isText(tree.getLeftOperand(), tree));
        }
        if (kind == Tree.Kind.DIVIDE || kind == Tree.Kind.REMAINDER) {
            divisor(tree.getRightOperand());
        }
        return super.visitBinary(tree, nothing);
    }

    private boolean isText(ExpressionTree part, Tree of) {
        TypeMirror type = trees.getTypeMirror(new TreePath(getCurrentPath(), part));
        return type == null || shortly(type).equals("String");
    }

    private void divisor(ExpressionTree tree) {
        boolean constant = tree instanceof LiteralTree literal && !literal.getValue().equals(0);
        boolean named = tree.toString().matches("SIDE|OWNERS") || DIVISORS.contains(tree.toString());
        holds("7: a divisor: " + tree, constant || named);
    }

    @Override
    public Void visitCompoundAssignment(CompoundAssignmentTree tree, Void nothing) {
        if (tree.getKind() == Tree.Kind.DIVIDE_ASSIGNMENT || tree.getKind() == Tree.Kind.REMAINDER_ASSIGNMENT) {
            divisor(tree.getExpression());
        }
        return super.visitCompoundAssignment(tree, nothing);
    }

    @Override
    public Void visitLambdaExpression(LambdaExpressionTree tree, Void nothing) {
        never("2", tree);
        return super.visitLambdaExpression(tree, nothing);
    }

    @Override
    public Void visitMemberReference(MemberReferenceTree tree, Void nothing) {
        never("2", tree);
        return super.visitMemberReference(tree, nothing);
    }

    @Override
    public Void visitEnhancedForLoop(EnhancedForLoopTree tree, Void nothing) {
        never("12: by index", tree);
        return super.visitEnhancedForLoop(tree, nothing);
    }

    @Override
    public Void visitTry(TryTree tree, Void nothing) {
        never("6: nothing is caught", tree);
        return super.visitTry(tree, nothing);
    }

    @Override
    public Void visitSynchronized(SynchronizedTree tree, Void nothing) {
        never("6", tree);
        return super.visitSynchronized(tree, nothing);
    }

    @Override
    public Void visitAssert(AssertTree tree, Void nothing) {
        never("6", tree);
        return super.visitAssert(tree, nothing);
    }

    @Override
    public Void visitTypeCast(TypeCastTree tree, Void nothing) {
        TypeMirror to = trees.getTypeMirror(new TreePath(getCurrentPath(), tree.getType()));
        holds("6: a cast of numbers: " + tree, to != null && to.getKind().isPrimitive());
        return super.visitTypeCast(tree, nothing);
    }

    /** From each call of the face on; a method that is open already is recursion. */
    private void depths() {
        for (String start : faceMethods) {
            int deep = depth(start, new HashSet<>());
            holds("11: " + start + " is " + deep + " deep", deep <= DEEP);
        }
        holds("8: the one recursion", recursive().equals(List.of("OwnedClouds.Guess.place")));
    }

    private int depth(String name, Set<String> open) {
        int deepest = 0;
        open.add(name);
        for (String next : callsOf.getOrDefault(name, Set.of())) {
            if (!open.contains(next)) {
                deepest = Math.max(deepest, depth(next, open));
            }
        }
        open.remove(name);
        return deepest + 1;
    }

    /** The methods that reach themselves. */
    private List<String> recursive() {
        Set<String> found = new TreeSet<>();
        for (String start : callsOf.keySet()) {
            Set<String> reached = new HashSet<>();
            reach(start, reached);
            if (reached.contains(start)) {
                found.add(start);
            }
        }
        return List.copyOf(found);
    }

    private void reach(String from, Set<String> reached) {
        for (String next : callsOf.getOrDefault(from, Set.of())) {
            if (reached.add(next)) {
                reach(next, reached);
            }
        }
    }
}
