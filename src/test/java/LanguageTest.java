import com.sun.source.tree.AssertTree;
import com.sun.source.tree.BinaryTree;
import com.sun.source.tree.CatchTree;
import com.sun.source.tree.ClassTree;
import com.sun.source.tree.CompilationUnitTree;
import com.sun.source.tree.ExpressionTree;
import com.sun.source.tree.IdentifierTree;
import com.sun.source.tree.LambdaExpressionTree;
import com.sun.source.tree.LiteralTree;
import com.sun.source.tree.MemberReferenceTree;
import com.sun.source.tree.MemberSelectTree;
import com.sun.source.tree.MethodInvocationTree;
import com.sun.source.tree.MethodTree;
import com.sun.source.tree.NewArrayTree;
import com.sun.source.tree.NewClassTree;
import com.sun.source.tree.SynchronizedTree;
import com.sun.source.tree.ThrowTree;
import com.sun.source.tree.Tree;
import com.sun.source.tree.TryTree;
import com.sun.source.tree.VariableTree;
import com.sun.source.util.JavacTask;
import com.sun.source.util.SourcePositions;
import com.sun.source.util.TreeScanner;
import com.sun.source.util.Trees;
import java.nio.file.Path;
import java.util.HashSet;
import java.util.List;
import java.util.Map;
import java.util.Set;
import java.util.TreeMap;
import java.util.TreeSet;
import javax.lang.model.element.Modifier;
import javax.tools.JavaCompiler;
import javax.tools.StandardJavaFileManager;
import javax.tools.ToolProvider;

/** Those rules of LANGUAGE.md that can be seen from the source's tree, and the face of the document. */
public final class LanguageTest extends TreeScanner<Void, Void> {
    private static final Set<String> LIBRARY = Set.of("Arrays.fill", "System.arraycopy", "Math.min", "Math.max",
            "Math.abs", "Integer.bitCount", "Long.bitCount");
    private static final Set<String> OF_TEXTS = Set.of("indexOf", "charAt", "length");
    private static final Set<String> FACE = Set.of("hang/6", "knot/3", "kind/4", "plant/4", "valve/2", "kitchen/3",
            "rope/3", "seed/1", "feed/5", "law/1", "cell/3", "byLaw/3", "water/0", "fall/2", "go/0", "day/0", "torn/2",
            "fallIs/2", "claimed/2", "right/2", "food/1", "kitchenIs/2", "mayWork/3", "work/4", "pollen/5",
            "pollinate/2", "planted/2", "drought/3", "mended/2", "hail/1", "check/2", "count/1", "<init>/0");

    private final CompilationUnitTree unit;
    private final SourcePositions positions;
    private final Set<String> seenFace = new TreeSet<>();
    private final Set<String> publicNames = new HashSet<>();
    private final Set<String> privateNames = new TreeSet<>();
    private final Map<String, Set<String>> calls = new TreeMap<>();
    private String method = "";
    private int classes;
    private int wrong;

    private LanguageTest(CompilationUnitTree unit, SourcePositions positions) {
        this.unit = unit;
        this.positions = positions;
    }

    public static void main(String[] args) throws Exception {
        JavaCompiler javac = ToolProvider.getSystemJavaCompiler();
        try (StandardJavaFileManager files = javac.getStandardFileManager(null, null, null)) {
            Path source = Path.of("src/main/java/CliffGarden.java");
            JavacTask task = (JavacTask) javac.getTask(null, files, null, List.of("-proc:none"), null,
                    files.getJavaFileObjects(source));
            CompilationUnitTree unit = task.parse().iterator().next();
            LanguageTest test = new LanguageTest(unit, Trees.instance(task).getSourcePositions());
            test.scan(unit, null);
            test.end();
            System.out.println(test.wrong == 0 ? "the rules are kept" : test.wrong + " rules are not kept");
            if (test.wrong > 0) {
                System.exit(1);
            }
        }
    }

    private void end() {
        rule(1, seenFace.equals(FACE), "the face is " + seenFace);
        for (String name : privateNames) {
            rule(1, !publicNames.contains(name), "a private method bears the name " + name);
        }
        rule(11, classes <= 12, classes + " classes");
        for (String name : publicNames) {
            int deep = depth(name, new HashSet<>());
            rule(11, deep <= 8, name + " goes " + deep + " deep");
        }
    }

    /** Calls that are no recursion; those in a ring count once each. */
    private int depth(String name, Set<String> open) {
        if (!open.add(name)) {
            return 0;
        }
        int deepest = 0;
        for (String next : calls.getOrDefault(name, Set.of())) {
            deepest = Math.max(deepest, depth(next, open));
        }
        open.remove(name);
        return deepest + (recurs(name) ? 0 : 1);
    }

    private boolean recurs(String name) {
        Set<String> reached = new HashSet<>();
        List<String> todo = new java.util.ArrayList<>(calls.getOrDefault(name, Set.of()));
        while (!todo.isEmpty()) {
            String next = todo.remove(todo.size() - 1);
            if (reached.add(next)) {
                todo.addAll(calls.getOrDefault(next, Set.of()));
            }
        }
        return reached.contains(name);
    }

    private void rule(int number, boolean kept, String what) {
        if (!kept) {
            wrong++;
            System.out.println("rule " + number + ": " + what);
        }
    }

    private String line(Tree tree) {
        return "line " + unit.getLineMap().getLineNumber(positions.getStartPosition(unit, tree));
    }

    private int lines(Tree tree) {
        return (int) (unit.getLineMap().getLineNumber(positions.getEndPosition(unit, tree))
                - unit.getLineMap().getLineNumber(positions.getStartPosition(unit, tree)) + 1);
    }

    @Override
    public Void visitClass(ClassTree node, Void p) {
        classes++;
        boolean outer = node.getSimpleName().contentEquals("CliffGarden");
        Set<Modifier> flags = node.getModifiers().getFlags();
        rule(1, flags.contains(outer ? Modifier.PUBLIC : Modifier.PRIVATE), line(node) + ": class");
        rule(2, outer || flags.contains(Modifier.STATIC), line(node) + ": class that is not static");
        int fields = 0;
        for (Tree member : node.getMembers()) {
            if (member instanceof VariableTree v) {
                Set<Modifier> f = v.getModifiers().getFlags();
                boolean constant = f.contains(Modifier.STATIC);
                fields += constant ? 0 : 1;
                rule(5, !constant || f.contains(Modifier.FINAL), line(member) + ": static that is not final");
                rule(1, f.contains(Modifier.PRIVATE) || v.getName().contentEquals("NONE"), line(member) + ": field");
            }
            if (member instanceof MethodTree m) {
                boolean open = m.getModifiers().getFlags().contains(Modifier.PUBLIC);
                rule(1, open ? outer : m.getModifiers().getFlags().contains(Modifier.PRIVATE), line(m) + ": method");
                if (open) {
                    seenFace.add(m.getName() + "/" + m.getParameters().size());
                    publicNames.add(m.getName().toString());
                } else {
                    privateNames.add(m.getName().toString());
                }
            }
        }
        privateNames.remove("<init>");
        rule(11, fields <= 20, line(node) + ": " + fields + " fields");
        return super.visitClass(node, p);
    }

    @Override
    public Void visitMethod(MethodTree node, Void p) {
        rule(11, node.getParameters().size() <= 7, line(node) + ": parameters");
        rule(11, lines(node) <= 60, line(node) + ": " + lines(node) + " lines");
        method = node.getName().toString();
        super.visitMethod(node, p);
        method = "";
        return null;
    }

    @Override
    public Void visitMethodInvocation(MethodInvocationTree node, Void p) {
        ExpressionTree called = node.getMethodSelect();
        if (called instanceof IdentifierTree own) {
            calls.computeIfAbsent(method, m -> new TreeSet<>()).add(own.getName().toString());
        } else if (called instanceof MemberSelectTree of) {
            String whole = of.toString();
            String name = of.getIdentifier().toString();
            boolean library = Character.isUpperCase(whole.charAt(0)) && !whole.startsWith("Nets.");
            if (OF_TEXTS.contains(name)) {
                return super.visitMethodInvocation(node, p);
            }
            rule(4, !library || LIBRARY.contains(whole), line(node) + ": " + whole);
            if (!library) {
                calls.computeIfAbsent(method, m -> new TreeSet<>()).add(name);
            }
        }
        return super.visitMethodInvocation(node, p);
    }

    @Override
    public Void visitNewClass(NewClassTree node, Void p) {
        rule(2, node.getClassBody() == null, line(node) + ": anonymous class");
        rule(12, method.isEmpty() || method.equals("<init>"), line(node) + ": a call makes an object");
        return super.visitNewClass(node, p);
    }

    @Override
    public Void visitNewArray(NewArrayTree node, Void p) {
        rule(12, node.getDimensions().size() == 1, line(node) + ": array");
        return super.visitNewArray(node, p);
    }

    @Override
    public Void visitBinary(BinaryTree node, Void p) {
        boolean text = node.getLeftOperand() instanceof LiteralTree l && l.getValue() instanceof String
                || node.getRightOperand() instanceof LiteralTree r && r.getValue() instanceof String;
        rule(10, !text, line(node) + ": a text joined or compared by a sign");
        return super.visitBinary(node, p);
    }

    @Override
    public Void visitThrow(ThrowTree node, Void p) {
        rule(6, false, line(node) + ": throw");
        return null;
    }

    @Override
    public Void visitTry(TryTree node, Void p) {
        rule(6, false, line(node) + ": try");
        return null;
    }

    @Override
    public Void visitCatch(CatchTree node, Void p) {
        rule(6, false, line(node) + ": catch");
        return null;
    }

    @Override
    public Void visitSynchronized(SynchronizedTree node, Void p) {
        rule(6, false, line(node) + ": synchronized");
        return null;
    }

    @Override
    public Void visitAssert(AssertTree node, Void p) {
        rule(6, false, line(node) + ": assert");
        return null;
    }

    @Override
    public Void visitLambdaExpression(LambdaExpressionTree node, Void p) {
        rule(2, false, line(node) + ": lambda");
        return null;
    }

    @Override
    public Void visitMemberReference(MemberReferenceTree node, Void p) {
        rule(2, false, line(node) + ": method reference");
        return null;
    }
}
