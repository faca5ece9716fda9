import com.sun.source.tree.AssertTree;
import com.sun.source.tree.BinaryTree;
import com.sun.source.tree.ClassTree;
import com.sun.source.tree.CompilationUnitTree;
import com.sun.source.tree.ExpressionTree;
import com.sun.source.tree.IdentifierTree;
import com.sun.source.tree.LambdaExpressionTree;
import com.sun.source.tree.MemberReferenceTree;
import com.sun.source.tree.MemberSelectTree;
import com.sun.source.tree.MethodInvocationTree;
import com.sun.source.tree.MethodTree;
import com.sun.source.tree.NewClassTree;
import com.sun.source.tree.SynchronizedTree;
import com.sun.source.tree.ThrowTree;
import com.sun.source.tree.Tree;
import com.sun.source.tree.TryTree;
import com.sun.source.tree.VariableTree;
import com.sun.source.util.JavacTask;
import com.sun.source.util.SourcePositions;
import com.sun.source.util.TreeScanner;
import com.sun.source.util.Trees;
import java.io.IOException;
import java.nio.file.Path;
import java.util.ArrayList;
import java.util.HashMap;
import java.util.HashSet;
import java.util.List;
import java.util.Map;
import java.util.Set;
import java.util.TreeSet;
import javax.lang.model.element.Modifier;
import javax.tools.JavaCompiler;
import javax.tools.StandardJavaFileManager;
import javax.tools.ToolProvider;

/** Those rules of LANGUAGE.md that can be told from the source text of the program. */
public final class LanguageTest extends TreeScanner<Void, Void> {
    private static final Path SOURCE = Path.of("src/main/java/SandMandalas.java");
    private static final Set<String> LIBRARY = Set.of("arraycopy", "max", "min", "charAt", "length", "isEmpty");
    private static final int LONGEST_METHOD = 60, MOST_PARAMETERS = 7, MOST_CLASSES = 12, MOST_FIELDS = 20, DEEPEST = 8;

    private final CompilationUnitTree unit;
    private final SourcePositions positions;
    private final Map<String, Set<String>> calls = new HashMap<>();
    private final Set<String> publicNames = new HashSet<>();
    private final List<String> otherNames = new ArrayList<>();
    private final Set<String> called = new TreeSet<>();
    private int classes;
    private int breaches;
    private String method = "";

    private LanguageTest(CompilationUnitTree unit, SourcePositions positions) {
        this.unit = unit;
        this.positions = positions;
    }

    public static void main(String[] args) throws IOException {
        JavaCompiler compiler = ToolProvider.getSystemJavaCompiler();
        try (StandardJavaFileManager files = compiler.getStandardFileManager(null, null, null)) {
            JavacTask task =
                (JavacTask) compiler.getTask(null, files, null, null, null, files.getJavaFileObjects(SOURCE));
            CompilationUnitTree unit = task.parse().iterator().next();
            LanguageTest test = new LanguageTest(unit, Trees.instance(task).getSourcePositions());
            test.scan(unit, null);
            test.lookAtTheWhole();
            Script.due("breaches of LANGUAGE.md", test.breaches, 0);
        }
        Script.finish();
    }

    private void breach(Tree tree, String rule) {
        breaches++;
        System.out.println(SOURCE + ":" + line(positions.getStartPosition(unit, tree)) + ": " + rule);
    }

    private long line(long position) {
        return unit.getLineMap().getLineNumber(position);
    }

    private void lookAtTheWhole() {
        if (unit.getPackageName() != null) breach(unit, "rule 1: a package line");
        if (!unit.getImports().isEmpty()) breach(unit, "rule 4: an import");
        if (unit.getTypeDecls().size() != 1) breach(unit, "rule 1: more than one class");
        if (classes > MOST_CLASSES) breach(unit, "rule 11: " + classes + " classes");
        for (String name : otherNames) {
            if (publicNames.contains(name)) breach(unit, "rule 1: " + name + " bears the name of a public method");
        }
        for (String name : called) {
            if (!calls.containsKey(name) && !LIBRARY.contains(name)) breach(unit, "rule 4: the library's " + name);
        }
        for (String name : calls.keySet()) {
            int deep = depth(name, new ArrayList<>());
            if (deep > DEEPEST) breach(unit, "rule 11: calls go " + deep + " deep from " + name);
        }
    }

    /** How deep calls go, told by names alone. */
    private int depth(String name, List<String> above) {
        if (above.contains(name)) {
            breach(unit, "rule 8: recursion of " + name);
            return above.size();
        }
        above.add(name);
        int deepest = 0;
        for (String next : calls.getOrDefault(name, Set.of())) deepest = Math.max(deepest, depth(next, above));
        above.remove(name);
        return deepest + 1;
    }

    @Override
    public Void visitClass(ClassTree tree, Void nothing) {
        classes++;
        if (!method.isEmpty()) breach(tree, "rule 2: a class in a method");
        boolean inside = classes > 1;
        if (inside && tree.getKind() == Tree.Kind.CLASS && !tree.getModifiers().getFlags().contains(Modifier.STATIC)) {
            breach(tree, "rule 2: a class inside that is not static");
        }
        int fields = 0;
        for (Tree member : tree.getMembers()) {
            if (member.getKind() == Tree.Kind.BLOCK) breach(member, "rule 5: an initialiser block");
            if (!(member instanceof VariableTree)) continue;
            Set<Modifier> flags = ((VariableTree) member).getModifiers().getFlags();
            if (!flags.contains(Modifier.STATIC)) fields++;
            else if (!flags.contains(Modifier.FINAL)) breach(member, "rule 5: a static field that is not final");
        }
        if (fields > MOST_FIELDS) breach(tree, "rule 11: " + fields + " fields");
        return super.visitClass(tree, nothing);
    }

    @Override
    public Void visitMethod(MethodTree tree, Void nothing) {
        method = tree.getName().toString();
        if (tree.getModifiers().getFlags().contains(Modifier.PUBLIC)) publicNames.add(method);
        else if (!method.equals("<init>")) otherNames.add(method);
        calls.putIfAbsent(method, new TreeSet<>());
        if (tree.getParameters().size() > MOST_PARAMETERS) breach(tree, "rule 11: too many parameters");
        long end = positions.getEndPosition(unit, tree);
        if (line(end) - line(positions.getStartPosition(unit, tree)) >= LONGEST_METHOD) {
            breach(tree, "rule 11: a long method");
        }
        super.visitMethod(tree, nothing);
        method = "";
        return null;
    }

    @Override
    public Void visitMethodInvocation(MethodInvocationTree tree, Void nothing) {
        ExpressionTree select = tree.getMethodSelect();
        String name = select instanceof MemberSelectTree
            ? ((MemberSelectTree) select).getIdentifier().toString() : ((IdentifierTree) select).getName().toString();
        if (!name.equals("super")) {
            called.add(name);
            calls.computeIfAbsent(method, unknown -> new TreeSet<>()).add(name);
        }
        return super.visitMethodInvocation(tree, nothing);
    }

    @Override
    public Void visitNewClass(NewClassTree tree, Void nothing) {
        if (tree.getClassBody() != null) breach(tree, "rule 2: an anonymous class");
        if (!method.equals("<init>")) breach(tree, "README: objects are made by constructors alone");
        return super.visitNewClass(tree, nothing);
    }

    @Override
    public Void visitBinary(BinaryTree tree, Void nothing) {
        boolean text = tree.getLeftOperand().getKind() == Tree.Kind.STRING_LITERAL
            || tree.getRightOperand().getKind() == Tree.Kind.STRING_LITERAL;
        if (text) breach(tree, "rule 10: an operator on texts");
        return super.visitBinary(tree, nothing);
    }

    @Override
    public Void visitThrow(ThrowTree tree, Void nothing) {
        breach(tree, "rule 6: throw");
        return super.visitThrow(tree, nothing);
    }

    @Override
    public Void visitTry(TryTree tree, Void nothing) {
        breach(tree, "rule 6: try");
        return super.visitTry(tree, nothing);
    }

    @Override
    public Void visitSynchronized(SynchronizedTree tree, Void nothing) {
        breach(tree, "rule 6: synchronized");
        return super.visitSynchronized(tree, nothing);
    }

    @Override
    public Void visitAssert(AssertTree tree, Void nothing) {
        breach(tree, "rule 6: assert");
        return super.visitAssert(tree, nothing);
    }

    @Override
    public Void visitLambdaExpression(LambdaExpressionTree tree, Void nothing) {
        breach(tree, "rule 2: a lambda");
        return super.visitLambdaExpression(tree, nothing);
    }

    @Override
    public Void visitMemberReference(MemberReferenceTree tree, Void nothing) {
        breach(tree, "rule 2: a method reference");
        return super.visitMemberReference(tree, nothing);
    }
}
