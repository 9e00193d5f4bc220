import com.sun.source.tree.AssertTree;
import com.sun.source.tree.AssignmentTree;
import com.sun.source.tree.BinaryTree;
import com.sun.source.tree.ClassTree;
import com.sun.source.tree.CompilationUnitTree;
import com.sun.source.tree.DoWhileLoopTree;
import com.sun.source.tree.ExpressionTree;
import com.sun.source.tree.ForLoopTree;
import com.sun.source.tree.ImportTree;
import com.sun.source.tree.InstanceOfTree;
import com.sun.source.tree.LambdaExpressionTree;
import com.sun.source.tree.LiteralTree;
import com.sun.source.tree.MemberReferenceTree;
import com.sun.source.tree.MethodInvocationTree;
import com.sun.source.tree.MethodTree;
import com.sun.source.tree.NewArrayTree;
import com.sun.source.tree.NewClassTree;
import com.sun.source.tree.SynchronizedTree;
import com.sun.source.tree.ThrowTree;
import com.sun.source.tree.Tree;
import com.sun.source.tree.TryTree;
import com.sun.source.tree.TypeCastTree;
import com.sun.source.tree.VariableTree;
import com.sun.source.tree.WhileLoopTree;
import com.sun.source.util.JavacTask;
import com.sun.source.util.TreePath;
import com.sun.source.util.TreePathScanner;
import com.sun.source.util.Trees;
import java.io.IOException;
import java.nio.file.Path;
import java.util.Arrays;
import java.util.HashMap;
import java.util.HashSet;
import java.util.List;
import java.util.Map;
import java.util.Set;
import java.util.TreeSet;
import javax.lang.model.element.Element;
import javax.lang.model.element.Modifier;
import javax.lang.model.type.TypeKind;
import javax.lang.model.type.TypeMirror;
import javax.tools.JavaCompiler;
import javax.tools.StandardJavaFileManager;
import javax.tools.ToolProvider;

/** Rules of LANGUAGE.md that can be seen from the program as the compiler reads it, each by its number. */
public final class LanguageTreeTest extends TreePathScanner<Void, Void> {
    private static final Due DUE = new Due("LanguageTreeTest");
    private static final Path FILE = Path.of("src/main/java/BudgetHouse.java");
    private static final int DEEPEST = 8, LONGEST = 60, MOST_PARAMETERS = 7, MOST_CLASSES = 12, MOST_FIELDS = 20;
    private static final Set<String> TYPES = new HashSet<>(Arrays.asList("int", "boolean", "void", "int[]", "String"));
    private static final Set<String> LIBRARY = new HashSet<>(Arrays.asList("Object.<init>", "String.length",
        "String.charAt", "Integer.compare", "Integer.bitCount", "Math.max", "Math.min"));

    private final Trees trees;
    private final CompilationUnitTree unit;
    private final Map<String, Set<String>> calls = new HashMap<>();
    private final Map<String, Integer> depths = new HashMap<>();
    private final Set<String> open = new HashSet<>();
    private final Set<String> own = new TreeSet<>();
    private String method = "";

    private LanguageTreeTest(Trees trees, CompilationUnitTree unit) {
        this.trees = trees;
        this.unit = unit;
    }

    public static void main(String[] args) throws IOException {
        JavaCompiler compiler = ToolProvider.getSystemJavaCompiler();
        try (StandardJavaFileManager files = compiler.getStandardFileManager(null, null, null)) {
            JavacTask task = (JavacTask) compiler.getTask(null, files, null, List.of("-proc:none"), null,
                files.getJavaFileObjects(FILE));
            CompilationUnitTree unit = task.parse().iterator().next();
            task.analyze();
            LanguageTreeTest test = new LanguageTreeTest(Trees.instance(task), unit);
            test.ownClasses(unit);
            test.scan(unit, null);
            test.depthsOfCalls();
        }
        DUE.end();
    }

    private void ownClasses(CompilationUnitTree file) {
        DUE.holds("1: one class in the file, without a package", file.getTypeDecls().size() == 1
            && file.getPackageName() == null);
        ClassTree house = (ClassTree) file.getTypeDecls().get(0);
        own.add(house.getSimpleName().toString());
        for (Tree member : house.getMembers()) {
            if (member instanceof ClassTree) {
                ClassTree inside = (ClassTree) member;
                own.add(inside.getSimpleName().toString());
                DUE.holds("2: " + inside.getSimpleName() + " is static, and private",
                    inside.getModifiers().getFlags().containsAll(List.of(Modifier.STATIC, Modifier.PRIVATE)));
            }
        }
        DUE.holds("11: " + own.size() + " classes", own.size() <= MOST_CLASSES);
    }

    private void rule(String rule, boolean held, Tree at) {
        long line = unit.getLineMap().getLineNumber(trees.getSourcePositions().getStartPosition(unit, at));
        DUE.holds("rule " + rule + ", line " + line, held);
    }

    private Element elementOf(Tree tree) {
        return trees.getElement(new TreePath(getCurrentPath(), tree));
    }

    private static String nameOf(Element called) {
        return called.getEnclosingElement().getSimpleName() + "." + called.getSimpleName();
    }

    @Override
    public Void visitClass(ClassTree tree, Void nothing) {
        int fields = 0;
        for (Tree member : tree.getMembers()) {
            if (member instanceof VariableTree) {
                Set<Modifier> flags = ((VariableTree) member).getModifiers().getFlags();
                boolean isStatic = flags.contains(Modifier.STATIC);
                fields += isStatic ? 0 : 1;
                rule("5: static fields are final", !isStatic || flags.contains(Modifier.FINAL), member);
            }
            rule("5: no block of static or of objects", member.getKind() != Tree.Kind.BLOCK, member);
        }
        rule("2: no class within a class, but those of the house", getCurrentPath().getParentPath().getLeaf() == unit
            || getCurrentPath().getParentPath().getParentPath().getLeaf() == unit, tree);
        rule("11: " + fields + " fields", fields <= MOST_FIELDS, tree);
        return super.visitClass(tree, nothing);
    }

    @Override
    public Void visitMethod(MethodTree tree, Void nothing) {
        method = nameOf(trees.getElement(getCurrentPath()));
        rule("11: parameters", tree.getParameters().size() <= MOST_PARAMETERS, tree);
        long begin = unit.getLineMap().getLineNumber(trees.getSourcePositions().getStartPosition(unit, tree));
        long end = unit.getLineMap().getLineNumber(trees.getSourcePositions().getEndPosition(unit, tree));
        rule("11: lines of " + method, end - begin < LONGEST, tree);
        rule("6: no throws", tree.getThrows().isEmpty(), tree);
        calls.putIfAbsent(method, new TreeSet<>());
        super.visitMethod(tree, nothing);
        method = "";
        return null;
    }

    @Override
    public Void visitVariable(VariableTree tree, Void nothing) {
        TypeMirror type = trees.getTypeMirror(new TreePath(getCurrentPath(), tree.getType()));
        String name = type.toString().replace("BudgetHouse.", "").replace("java.lang.", "");
        rule("3: a field, a parameter or a name of type " + name, TYPES.contains(name) || own.contains(name), tree);
        return super.visitVariable(tree, nothing);
    }

    @Override
    public Void visitMethodInvocation(MethodInvocationTree tree, Void nothing) {
        String called = nameOf(elementOf(tree.getMethodSelect()));
        String of = called.substring(0, called.indexOf('.'));
        if (own.contains(of)) {
            calls.computeIfAbsent(method, m -> new TreeSet<>()).add(called);
        } else {
            rule("4: " + called, LIBRARY.contains(called), tree);
        }
        return super.visitMethodInvocation(tree, nothing);
    }

    /** As README.md says, no call makes an object. */
    @Override
    public Void visitNewClass(NewClassTree tree, Void nothing) {
        rule("12: made in a constructor", method.isEmpty() && tree.getClassBody() == null, tree);
        return super.visitNewClass(tree, nothing);
    }

    @Override
    public Void visitNewArray(NewArrayTree tree, Void nothing) {
        rule("12: made in a constructor", method.isEmpty() && tree.getDimensions().size() <= 1, tree);
        return super.visitNewArray(tree, nothing);
    }

    @Override
    public Void visitBinary(BinaryTree tree, Void nothing) {
        boolean numbers = isNoObject(tree.getLeftOperand()) && isNoObject(tree.getRightOperand());
        rule("6, 10: no text is joined or compared", numbers, tree);
        return super.visitBinary(tree, nothing);
    }

    private boolean isNoObject(ExpressionTree tree) {
        TypeKind kind = trees.getTypeMirror(new TreePath(getCurrentPath(), tree)).getKind();
        return kind.isPrimitive();
    }

    @Override
    public Void visitLiteral(LiteralTree tree, Void nothing) {
        Object value = tree.getValue();
        rule("4: signs of texts are 1 to 127", !(value instanceof String)
            || ((String) value).chars().allMatch(c -> c >= 1 && c <= 127), tree);
        return super.visitLiteral(tree, nothing);
    }

    @Override
    public Void visitAssignment(AssignmentTree tree, Void nothing) {
        Element set = elementOf(tree.getVariable());
        rule("5: no constant is set", set == null || !set.getModifiers().contains(Modifier.STATIC), tree);
        return super.visitAssignment(tree, nothing);
    }

    @Override
    public Void visitForLoop(ForLoopTree tree, Void nothing) {
        rule("9: a loop has an end", tree.getCondition() != null && tree.getUpdate().size() == 1, tree);
        return super.visitForLoop(tree, nothing);
    }

    @Override
    public Void visitWhileLoop(WhileLoopTree tree, Void nothing) {
        rule("9: a loop has an end", !tree.getCondition().toString().equals("(true)"), tree);
        return super.visitWhileLoop(tree, nothing);
    }

    @Override
    public Void visitDoWhileLoop(DoWhileLoopTree tree, Void nothing) {
        rule("9: a loop has an end", !tree.getCondition().toString().equals("(true)"), tree);
        return super.visitDoWhileLoop(tree, nothing);
    }

    @Override
    public Void visitImport(ImportTree tree, Void nothing) {
        rule("4: no import is needed", false, tree);
        return null;
    }

    @Override
    public Void visitLambdaExpression(LambdaExpressionTree tree, Void nothing) {
        rule("2: no lambda", false, tree);
        return null;
    }

    @Override
    public Void visitMemberReference(MemberReferenceTree tree, Void nothing) {
        rule("2: no method reference", false, tree);
        return null;
    }

    @Override
    public Void visitThrow(ThrowTree tree, Void nothing) {
        rule("6: no throw", false, tree);
        return null;
    }

    @Override
    public Void visitTry(TryTree tree, Void nothing) {
        rule("6: no try", false, tree);
        return null;
    }

    @Override
    public Void visitSynchronized(SynchronizedTree tree, Void nothing) {
        rule("6: no synchronized", false, tree);
        return null;
    }

    @Override
    public Void visitAssert(AssertTree tree, Void nothing) {
        rule("6: no assert", false, tree);
        return null;
    }

    @Override
    public Void visitInstanceOf(InstanceOfTree tree, Void nothing) {
        rule("6: no instanceof is needed", false, tree);
        return null;
    }

    @Override
    public Void visitTypeCast(TypeCastTree tree, Void nothing) {
        rule("6: no cast is needed", false, tree);
        return null;
    }

    private void depthsOfCalls() {
        int deepest = 0;
        for (String of : new TreeSet<>(calls.keySet())) {
            deepest = Math.max(deepest, depthOf(of));
        }
        DUE.holds("rule 11: calls go " + deepest + " deep", deepest <= DEEPEST);
        DUE.holds("no calls were seen", calls.size() > 100 && deepest > 2);
    }

    private int depthOf(String of) {
        if (depths.containsKey(of)) {
            return depths.get(of);
        }
        DUE.holds("rule 8: " + of + " calls itself", open.add(of));
        int deepest = 0;
        for (String called : calls.getOrDefault(of, Set.of())) {
            deepest = Math.max(deepest, open.contains(called) ? DEEPEST : depthOf(called));
        }
        open.remove(of);
        depths.put(of, deepest + 1);
        return deepest + 1;
    }
}
