import com.sun.source.tree.AssertTree;
import com.sun.source.tree.BinaryTree;
import com.sun.source.tree.CatchTree;
import com.sun.source.tree.ClassTree;
import com.sun.source.tree.CompilationUnitTree;
import com.sun.source.tree.CompoundAssignmentTree;
import com.sun.source.tree.DoWhileLoopTree;
import com.sun.source.tree.ExpressionTree;
import com.sun.source.tree.ForLoopTree;
import com.sun.source.tree.LambdaExpressionTree;
import com.sun.source.tree.LiteralTree;
import com.sun.source.tree.MemberReferenceTree;
import com.sun.source.tree.MethodInvocationTree;
import com.sun.source.tree.MethodTree;
import com.sun.source.tree.NewArrayTree;
import com.sun.source.tree.NewClassTree;
import com.sun.source.tree.SynchronizedTree;
import com.sun.source.tree.ThrowTree;
import com.sun.source.tree.Tree;
import com.sun.source.tree.TryTree;
import com.sun.source.tree.VariableTree;
import com.sun.source.tree.WhileLoopTree;
import com.sun.source.util.JavacTask;
import com.sun.source.util.TreePath;
import com.sun.source.util.TreePathScanner;
import com.sun.source.util.Trees;
import java.io.IOException;
import java.nio.file.Path;
import java.util.HashSet;
import java.util.List;
import java.util.Map;
import java.util.Set;
import java.util.TreeMap;
import java.util.TreeSet;
import javax.lang.model.element.Element;
import javax.lang.model.element.Modifier;
import javax.lang.model.type.ArrayType;
import javax.lang.model.type.TypeMirror;
import javax.tools.JavaCompiler;
import javax.tools.StandardJavaFileManager;
import javax.tools.ToolProvider;

/** The rules of LANGUAGE.md that hang on what a name stands for: looked at in the tree that the compiler makes of the class. */
public final class SourceTreeTest extends TreePathScanner<Void, Void> {
    private static final String SOURCE = "src/main/java/StrapWindow.java";
    private static final int MOST_OPEN = 8;
    private static final Set<String> LIBRARY = Set.of("String.length", "String.charAt", "String.isEmpty", "String.equals",
        "String.indexOf", "String.substring", "String.toCharArray", "Math.max", "Math.min", "Math.abs", "Math.floorDiv", "Math.floorMod",
        "Integer.bitCount", "Integer.compare", "Long.bitCount", "Long.compare", "System.arraycopy", "Arrays.copyOf",
        "Arrays.copyOfRange", "Arrays.fill");
    private static final Set<String> PLAIN = Set.of("int", "long", "short", "byte", "char", "boolean", "void", "java.lang.String");
    private static final Set<String> CONSTANTS = Set.of("int", "long", "boolean", "char", "java.lang.String");
    /** What calls itself, straight or through others; each of these carries its depth. */
    private static final Set<String> RECURSIVE = Set.of("LawReader.readFact", "LawReader.readTest");

    private final Trees trees;
    private final Map<String, Set<String>> calls = new TreeMap<>();
    private final Set<String> faces = new TreeSet<>();
    private String within = "";
    private int seen = 0;
    private int broken = 0;

    private SourceTreeTest(Trees trees) {
        this.trees = trees;
    }

    public static void main(String[] args) throws IOException {
        JavaCompiler compiler = ToolProvider.getSystemJavaCompiler();
        try (StandardJavaFileManager files = compiler.getStandardFileManager(null, null, null)) {
            JavacTask task = (JavacTask) compiler.getTask(null, files, null, List.of("-proc:none"), null,
                files.getJavaFileObjects(Path.of(SOURCE)));
            SourceTreeTest test = new SourceTreeTest(Trees.instance(task));
            Iterable<? extends CompilationUnitTree> units = task.parse();
            task.analyze();
            test.scan(units, null);
            test.depths();
            System.out.println(test.seen + " names looked at, " + test.broken + " rules broken");
            if (test.broken != 0 || test.seen == 0) {
                System.exit(1);
            }
        }
    }

    private void rule(int number, boolean kept, Object what) {
        seen++;
        if (!kept) {
            broken++;
            System.out.println("rule " + number + ": " + what);
        }
    }

    private static boolean isOwn(String type) {
        return type.equals("StrapWindow") || type.startsWith("StrapWindow.");
    }

    private TypeMirror typeOf(Tree tree) {
        return trees.getTypeMirror(new TreePath(getCurrentPath(), tree));
    }

    /** Numbers, texts and own classes, and rows of numbers and own classes. */
    private static boolean isLeft(TypeMirror type) {
        if (type instanceof ArrayType row) {
            TypeMirror part = row.getComponentType();
            return !(part instanceof ArrayType) && !part.toString().equals("java.lang.String") && isLeft(part);
        }
        return PLAIN.contains(type.toString()) || isOwn(type.toString());
    }

    @Override
    public Void visitClass(ClassTree node, Void unused) {
        boolean outer = getCurrentPath().getParentPath().getLeaf() instanceof CompilationUnitTree;
        boolean inside = getCurrentPath().getParentPath().getLeaf() instanceof ClassTree;
        rule(2, outer || inside && node.getModifiers().getFlags().contains(Modifier.STATIC), "class " + node.getSimpleName());
        return super.visitClass(node, unused);
    }

    @Override
    public Void visitMethod(MethodTree node, Void unused) {
        Element method = trees.getElement(getCurrentPath());
        String before = within;
        within = method.getEnclosingElement().getSimpleName() + "." + node.getName();
        calls.computeIfAbsent(within, name -> new TreeSet<>());
        if (node.getModifiers().getFlags().contains(Modifier.PUBLIC)) {
            faces.add(within);
        }
        rule(11, node.getParameters().size() <= 7, "parameters of " + within);
        rule(11, linesOf(node) <= 60, "lines of " + within);
        rule(3, node.getReturnType() == null || isLeft(typeOf(node.getReturnType())), "answer of " + within);
        super.visitMethod(node, unused);
        within = before;
        return null;
    }

    private long linesOf(Tree node) {
        CompilationUnitTree unit = getCurrentPath().getCompilationUnit();
        long first = trees.getSourcePositions().getStartPosition(unit, node);
        long last = trees.getSourcePositions().getEndPosition(unit, node);
        return unit.getLineMap().getLineNumber(last) - unit.getLineMap().getLineNumber(first) + 1;
    }

    @Override
    public Void visitVariable(VariableTree node, Void unused) {
        TypeMirror type = typeOf(node.getType());
        rule(3, isLeft(type), node);
        Set<Modifier> flags = node.getModifiers().getFlags();
        if (flags.contains(Modifier.STATIC)) {
            rule(5, flags.contains(Modifier.FINAL) && CONSTANTS.contains(type.toString()), node);
        }
        return super.visitVariable(node, unused);
    }

    @Override
    public Void visitMethodInvocation(MethodInvocationTree node, Void unused) {
        Element method = trees.getElement(getCurrentPath());
        String owner = method.getEnclosingElement().toString();
        String name = method.getEnclosingElement().getSimpleName() + "." + method.getSimpleName();
        rule(4, isOwn(owner) || LIBRARY.contains(name) || name.equals("Object.<init>"), "call of " + owner + "." + method);
        called(name);
        return super.visitMethodInvocation(node, unused);
    }

    @Override
    public Void visitNewClass(NewClassTree node, Void unused) {
        String type = typeOf(node.getIdentifier()).toString();
        rule(4, isOwn(type), node);
        rule(2, node.getClassBody() == null, node);
        called(type.substring(type.lastIndexOf('.') + 1) + ".<init>");
        return super.visitNewClass(node, unused);
    }

    private void called(String name) {
        if (!within.isEmpty() && !name.startsWith("Object.")) {
            calls.get(within).add(name);
        }
    }

    @Override
    public Void visitNewArray(NewArrayTree node, Void unused) {
        rule(3, node.getDimensions().size() <= 1, node);
        return super.visitNewArray(node, unused);
    }

    @Override
    public Void visitBinary(BinaryTree node, Void unused) {
        boolean texts = isText(node.getLeftOperand()) || isText(node.getRightOperand());
        boolean compared = node.getKind() == Tree.Kind.EQUAL_TO || node.getKind() == Tree.Kind.NOT_EQUAL_TO;
        rule(compared ? 6 : 10, !texts, node);
        return super.visitBinary(node, unused);
    }

    @Override
    public Void visitCompoundAssignment(CompoundAssignmentTree node, Void unused) {
        rule(10, !isText(node.getVariable()), node);
        return super.visitCompoundAssignment(node, unused);
    }

    private boolean isText(ExpressionTree part) {
        TypeMirror type = typeOf(part);
        return type != null && (type.toString().equals("java.lang.String") || type.toString().equals("java.lang.Integer"));
    }

    @Override
    public Void visitLiteral(LiteralTree node, Void unused) {
        if (node.getValue() instanceof String text) {
            rule(4, text.chars().allMatch(sign -> sign >= 1 && sign <= 127), node);
        }
        return super.visitLiteral(node, unused);
    }

    @Override
    public Void visitForLoop(ForLoopTree node, Void unused) {
        rule(9, node.getCondition() != null && !node.getUpdate().isEmpty(), node);
        return super.visitForLoop(node, unused);
    }

    // All loops of the class count, so that their end is seen at a glance; one without a counter wants a look.
    @Override
    public Void visitWhileLoop(WhileLoopTree node, Void unused) {
        rule(9, false, node);
        return null;
    }

    @Override
    public Void visitDoWhileLoop(DoWhileLoopTree node, Void unused) {
        rule(9, false, node);
        return null;
    }

    @Override
    public Void visitLambdaExpression(LambdaExpressionTree node, Void unused) {
        rule(2, false, node);
        return null;
    }

    @Override
    public Void visitMemberReference(MemberReferenceTree node, Void unused) {
        rule(2, false, node);
        return null;
    }

    @Override
    public Void visitThrow(ThrowTree node, Void unused) {
        rule(6, false, node);
        return null;
    }

    @Override
    public Void visitTry(TryTree node, Void unused) {
        rule(6, false, node);
        return null;
    }

    @Override
    public Void visitCatch(CatchTree node, Void unused) {
        rule(6, false, node);
        return null;
    }

    @Override
    public Void visitSynchronized(SynchronizedTree node, Void unused) {
        rule(6, false, node);
        return null;
    }

    @Override
    public Void visitAssert(AssertTree node, Void unused) {
        rule(6, false, node);
        return null;
    }

    private void depths() {
        for (String method : calls.keySet()) {
            boolean again = reaches(method, method, new HashSet<>());
            rule(8, again == RECURSIVE.contains(method), method + (again ? " calls itself" : " does not call itself"));
        }
        for (String face : faces) {
            String deepest = deepest(face, Set.of(face));
            rule(11, deepest.split(" ").length <= MOST_OPEN, "open at once: " + deepest);
        }
    }

    private boolean reaches(String from, String wanted, Set<String> passed) {
        for (String next : calls.getOrDefault(from, Set.of())) {
            if (next.equals(wanted) || passed.add(next) && reaches(next, wanted, passed)) {
                return true;
            }
        }
        return false;
    }

    /** The longest row of calls from here on, what calls itself counted once. */
    private String deepest(String from, Set<String> open) {
        String deepest = from;
        for (String next : calls.getOrDefault(from, Set.of())) {
            if (!open.contains(next)) {
                Set<String> more = new HashSet<>(open);
                more.add(next);
                String row = from + " " + deepest(next, more);
                deepest = row.split(" ").length > deepest.split(" ").length ? row : deepest;
            }
        }
        return deepest;
    }
}
