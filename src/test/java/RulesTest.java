import com.sun.source.tree.ArrayAccessTree;
import com.sun.source.tree.AssertTree;
import com.sun.source.tree.BinaryTree;
import com.sun.source.tree.ClassTree;
import com.sun.source.tree.CompilationUnitTree;
import com.sun.source.tree.CompoundAssignmentTree;
import com.sun.source.tree.ExpressionTree;
import com.sun.source.tree.ForLoopTree;
import com.sun.source.tree.IdentifierTree;
import com.sun.source.tree.ImportTree;
import com.sun.source.tree.LambdaExpressionTree;
import com.sun.source.tree.LiteralTree;
import com.sun.source.tree.MemberReferenceTree;
import com.sun.source.tree.MemberSelectTree;
import com.sun.source.tree.MethodInvocationTree;
import com.sun.source.tree.MethodTree;
import com.sun.source.tree.NewArrayTree;
import com.sun.source.tree.NewClassTree;
import com.sun.source.tree.SynchronizedTree;
import com.sun.source.tree.ThrowTree;
import com.sun.source.tree.Tree;
import com.sun.source.tree.TryTree;
import com.sun.source.tree.TypeCastTree;
import com.sun.source.tree.VariableTree;
import com.sun.source.tree.WhileLoopTree;
import com.sun.source.util.JavacTask;
import com.sun.source.util.TreePath;
import com.sun.source.util.TreePathScanner;
import com.sun.source.util.TreeScanner;
import com.sun.source.util.Trees;
import java.io.File;
import java.util.HashMap;
import java.util.LinkedHashMap;
import java.util.LinkedHashSet;
import java.util.List;
import java.util.Map;
import java.util.Set;
import javax.lang.model.element.Element;
import javax.lang.model.element.ElementKind;
import javax.lang.model.element.ExecutableElement;
import javax.lang.model.element.Modifier;
import javax.lang.model.element.TypeElement;
import javax.lang.model.element.VariableElement;
import javax.tools.JavaCompiler;
import javax.tools.StandardJavaFileManager;
import javax.tools.ToolProvider;

/**
 * The rules of LANGUAGE.md that can be seen from the file itself, looked at through the compiler's own trees. Where the
 * class needs less than a rule allows (no recursion, no try, no object made behind the constructors), the less is held to.
 */
public final class RulesTest extends TreePathScanner<Void, Void> {
    private static final String FILE = "src/main/java/FollyShire.java";
    private static final int MOST_CLASSES = 12;
    private static final int MOST_FIELDS = 20;
    private static final int MOST_LINES = 60;
    private static final int MOST_PARAMETERS = 7;
    private static final int MOST_DEEP = 8;
    private static final Set<String> LIBRARY = Set.of("java.lang.String.length", "java.lang.String.charAt",
        "java.lang.String.isEmpty", "java.lang.String.equals", "java.lang.Integer.bitCount", "java.lang.Math.max",
        "java.lang.Math.min", "java.lang.Math.abs", "java.lang.Math.floorDiv", "java.lang.Math.floorMod",
        "java.lang.System.arraycopy", "java.util.Arrays.fill");
    private static final Set<String> TYPES = Set.of("int", "long", "short", "byte", "char", "boolean", "int[]", "long[]",
        "short[]", "byte[]", "char[]", "boolean[]", "java.lang.String");
    /** Tests of the class's own that look at the index that they are given. */
    private static final Set<String> LOOKS = Set.of("lacksFolly", "lacksEstate", "has");

    private final Trees trees;
    private final CompilationUnitTree unit;
    private final Map<ExecutableElement, Set<ExecutableElement>> calls = new LinkedHashMap<>();
    private final Map<ExecutableElement, Integer> depths = new HashMap<>();
    private ExecutableElement method;
    private MethodTree methodTree;
    private int classes;

    private RulesTest(Trees trees, CompilationUnitTree unit) {
        this.trees = trees;
        this.unit = unit;
    }

    public static void main(String[] args) throws Exception {
        JavaCompiler compiler = ToolProvider.getSystemJavaCompiler();
        try (StandardJavaFileManager files = compiler.getStandardFileManager(null, null, null)) {
            JavacTask task = (JavacTask) compiler.getTask(null, files, null, List.of("-proc:none"), null,
                files.getJavaFileObjects(new File(FILE)));
            CompilationUnitTree unit = task.parse().iterator().next();
            task.analyze();
            RulesTest rules = new RulesTest(Trees.instance(task), unit);
            rules.scan(unit, null);
            rules.ofTheFile();
            rules.ofCalls();
        }
        Check.end();
    }

    private void ofTheFile() {
        Check.due("rule 1: a package line", unit.getPackage() != null, false);
        Check.due("rule 1: classes beside the one", unit.getTypeDecls().size(), 1);
        for (ImportTree each : unit.getImports()) {
            String name = each.getQualifiedIdentifier().toString();
            Check.due("rule 4: import " + name, name.equals("java.util.NoSuchElementException"), true);
        }
        Check.due("rule 11: " + classes + " classes", classes <= MOST_CLASSES, true);
    }

    /** Rules 8 and 11: no call comes back to its own method, and none goes too deep. */
    private void ofCalls() {
        for (ExecutableElement each : calls.keySet()) {
            int depth = depthOf(each, new LinkedHashSet<>());
            Check.due("rule 11: " + each + " goes " + depth + " deep", depth <= MOST_DEEP, true);
        }
    }

    private int depthOf(ExecutableElement each, Set<ExecutableElement> open) {
        if (!open.add(each)) {
            Check.due("rule 8: recursion by " + open, true, false);
            return 0;
        }
        if (!depths.containsKey(each)) {
            int deepest = 0;
            for (ExecutableElement next : calls.getOrDefault(each, Set.of())) {
                deepest = Math.max(deepest, depthOf(next, open));
            }
            depths.put(each, deepest + 1);
        }
        open.remove(each);
        return depths.get(each);
    }

    // ---- what each sort of tree may be

    @Override
    public Void visitClass(ClassTree tree, Void none) {
        classes++;
        TypeElement type = (TypeElement) trees.getElement(getCurrentPath());
        Set<Modifier> modifiers = type.getModifiers();
        boolean outer = type.getNestingKind() == javax.lang.model.element.NestingKind.TOP_LEVEL;
        boolean due = outer ? modifiers.containsAll(Set.of(Modifier.PUBLIC, Modifier.FINAL))
            : modifiers.contains(Modifier.STATIC) && !modifiers.contains(Modifier.PUBLIC) && !modifiers.contains(Modifier.PROTECTED);
        Check.due("rule 1: modifiers of " + type, due, true);
        int fields = 0;
        for (Element member : type.getEnclosedElements()) {
            if (member.getKind() == ElementKind.FIELD && !member.getModifiers().contains(Modifier.STATIC)) {
                fields++;
            }
            if (member.getKind() == ElementKind.STATIC_INIT) {
                Check.due("rule 5: a static block in " + type, true, false);
            }
        }
        Check.due("rule 11: " + fields + " fields of " + type, fields <= MOST_FIELDS, true);
        return super.visitClass(tree, none);
    }

    @Override
    public Void visitMethod(MethodTree tree, Void none) {
        method = (ExecutableElement) trees.getElement(getCurrentPath());
        methodTree = tree;
        calls.putIfAbsent(method, new LinkedHashSet<>());
        String name = method.getEnclosingElement() + "." + method;
        if (trees.getSourcePositions().getStartPosition(unit, tree) >= 0 && tree.getBody() != null) {
            long lines = lineOfEnd(tree) - line(tree) + 1;
            Check.due("rule 11: " + lines + " lines of " + name, lines <= MOST_LINES, true);
        }
        Check.due("rule 11: parameters of " + name, tree.getParameters().size() <= MOST_PARAMETERS, true);
        super.visitMethod(tree, none);
        method = null;
        methodTree = null;
        return null;
    }

    @Override
    public Void visitVariable(VariableTree tree, Void none) {
        VariableElement variable = (VariableElement) trees.getElement(getCurrentPath());
        String type = variable.asType().toString();
        boolean own = type.startsWith("FollyShire");
        Check.due("rule 3: " + type + " " + tree.getName() + at(tree), own || TYPES.contains(type), true);
        if (variable.getModifiers().contains(Modifier.STATIC)) {
            Check.due("rule 5: static " + tree.getName(), variable.getConstantValue() != null, true);
        }
        return super.visitVariable(tree, none);
    }

    @Override
    public Void visitMethodInvocation(MethodInvocationTree tree, Void none) {
        ExecutableElement called = (ExecutableElement) trees.getElement(getCurrentPath());
        String owner = called.getEnclosingElement().toString();
        if (owner.startsWith("FollyShire")) {
            if (method != null) {
                calls.computeIfAbsent(method, key -> new LinkedHashSet<>()).add(called);
            }
        } else if (!called.getSimpleName().contentEquals("<init>")) {
            String name = owner + "." + called.getSimpleName();
            Check.due("rule 4: " + name + at(tree), LIBRARY.contains(name), true);
        }
        return super.visitMethodInvocation(tree, none);
    }

    @Override
    public Void visitNewClass(NewClassTree tree, Void none) {
        String made = tree.getIdentifier().toString();
        boolean thrown = getCurrentPath().getParentPath().getLeaf() instanceof ThrowTree;
        Check.due("rule 12: new " + made + at(tree), thrown || isMaking(), true);
        Check.due("rule 2: a class without a name" + at(tree), tree.getClassBody() != null, false);
        return super.visitNewClass(tree, none);
    }

    @Override
    public Void visitNewArray(NewArrayTree tree, Void none) {
        Check.due("rule 12: a new array" + at(tree), isMaking(), true);
        return super.visitNewArray(tree, none);
    }

    @Override
    public Void visitThrow(ThrowTree tree, Void none) {
        boolean led = method != null && method.getSimpleName().contentEquals("led");
        boolean due = tree.getExpression().toString().startsWith("new NoSuchElementException(");
        Check.due("rule 6: only led throws" + at(tree), led && due, true);
        return super.visitThrow(tree, none);
    }

    @Override
    public Void visitTry(TryTree tree, Void none) {
        return ruledOut("rule 6: try", tree);
    }

    @Override
    public Void visitLambdaExpression(LambdaExpressionTree tree, Void none) {
        return ruledOut("rule 2: a lambda", tree);
    }

    @Override
    public Void visitMemberReference(MemberReferenceTree tree, Void none) {
        return ruledOut("rule 2: a method reference", tree);
    }

    @Override
    public Void visitSynchronized(SynchronizedTree tree, Void none) {
        return ruledOut("rule 6: synchronized", tree);
    }

    @Override
    public Void visitAssert(AssertTree tree, Void none) {
        return ruledOut("rule 6: assert", tree);
    }

    @Override
    public Void visitLiteral(LiteralTree tree, Void none) {
        if (tree.getValue() instanceof String text) {
            Check.due("rule 4: signs of \"" + text + "\"", text.chars().allMatch(sign -> sign >= 1 && sign <= 127), true);
        }
        return super.visitLiteral(tree, none);
    }

    @Override
    public Void visitTypeCast(TypeCastTree tree, Void none) {
        boolean number = Set.of("int", "long", "byte", "char", "short").contains(tree.getType().toString());
        Check.due("rule 6: a cast to " + tree.getType() + at(tree), number, true);
        return super.visitTypeCast(tree, none);
    }

    @Override
    public Void visitForLoop(ForLoopTree tree, Void none) {
        Check.due("rule 9: a for without an end" + at(tree), tree.getCondition() != null, true);
        return super.visitForLoop(tree, none);
    }

    @Override
    public Void visitWhileLoop(WhileLoopTree tree, Void none) {
        Check.due("rule 9: a while without a bound" + at(tree), tree.getCondition().toString().contains("<"), true);
        return super.visitWhileLoop(tree, none);
    }

    @Override
    public Void visitBinary(BinaryTree tree, Void none) {
        ofDivision(tree.getKind() == Tree.Kind.DIVIDE || tree.getKind() == Tree.Kind.REMAINDER, tree, tree.getRightOperand());
        if (tree.getKind() == Tree.Kind.PLUS) {
            String type = trees.getTypeMirror(getCurrentPath()).toString();
            Check.due("rule 10: texts joined by +" + at(tree), type.equals("java.lang.String"), false);
        }
        return super.visitBinary(tree, none);
    }

    @Override
    public Void visitCompoundAssignment(CompoundAssignmentTree tree, Void none) {
        boolean divides = tree.getKind() == Tree.Kind.DIVIDE_ASSIGNMENT || tree.getKind() == Tree.Kind.REMAINDER_ASSIGNMENT;
        ofDivision(divides, tree, tree.getExpression());
        return super.visitCompoundAssignment(tree, none);
    }

    @Override
    public Void visitArrayAccess(ArrayAccessTree tree, Void none) {
        looksAt("rule 7: the index " + tree.getIndex(), tree, tree.getIndex());
        return super.visitArrayAccess(tree, none);
    }

    // ---- rule 7: what is looked at before it is used

    private void ofDivision(boolean divides, Tree tree, ExpressionTree divisor) {
        if (divides) {
            looksAt("rule 7: the divisor " + divisor, tree, divisor);
        }
    }

    /**
     * Each variable of the expression is a constant, or compared (or given to a test) ahead of it in the same method, or
     * made there of nothing but such ones. That the comparison is the right one, the runs of ModelTest must show.
     */
    private void looksAt(String what, Tree tree, ExpressionTree used) {
        Set<String> seen = lookedAt(trees.getSourcePositions().getStartPosition(unit, tree));
        for (String name : changingNames(used)) {
            Check.due(what + at(tree) + ": " + name + " is looked at", seen.contains(name), true);
        }
    }

    private Set<String> changingNames(Tree used) {
        Set<String> names = new LinkedHashSet<>();
        new TreePathScanner<Void, Void>() {
            @Override
            public Void visitIdentifier(IdentifierTree name, Void none) {
                return add(name);
            }

            @Override
            public Void visitMemberSelect(MemberSelectTree name, Void none) {
                return add(name);
            }

            private Void add(ExpressionTree name) {
                boolean fixed = trees.getElement(getCurrentPath()) instanceof VariableElement v && v.getConstantValue() != null;
                if (!fixed) {
                    names.add(name.toString());
                }
                return null;
            }
        }.scan(TreePath.getPath(unit, used), null);
        return names;
    }

    private Set<String> lookedAt(long before) {
        Set<String> seen = new LinkedHashSet<>();
        new TreeScanner<Void, Void>() {
            @Override
            public Void visitBinary(BinaryTree tree, Void none) {
                boolean ahead = trees.getSourcePositions().getStartPosition(unit, tree) < before;
                boolean compares = switch (tree.getKind()) {
                    case LESS_THAN, GREATER_THAN, LESS_THAN_EQUAL, GREATER_THAN_EQUAL, NOT_EQUAL_TO, EQUAL_TO -> true;
                    default -> false;
                };
                if (ahead && compares) {
                    seen.add(tree.getLeftOperand().toString());
                }
                return super.visitBinary(tree, none);
            }

            @Override
            public Void visitMethodInvocation(MethodInvocationTree tree, Void none) {
                String name = tree.getMethodSelect().toString();
                boolean ahead = trees.getSourcePositions().getStartPosition(unit, tree) < before;
                if (ahead && LOOKS.contains(name.substring(name.lastIndexOf('.') + 1))) {
                    seen.add(tree.getArguments().get(0).toString());
                }
                return super.visitMethodInvocation(tree, none);
            }

            @Override
            public Void visitVariable(VariableTree tree, Void none) {
                boolean ahead = trees.getSourcePositions().getStartPosition(unit, tree) < before;
                boolean made = tree.getInitializer() instanceof BinaryTree;
                if (ahead && made && seen.containsAll(changingNames(tree.getInitializer()))) {
                    seen.add(tree.getName().toString());
                }
                return super.visitVariable(tree, none);
            }
        }.scan(methodTree, null);
        return seen;
    }

    // ---- helpers

    /** In a constructor, or where a field is first set. */
    private boolean isMaking() {
        return method == null || method.getKind() == ElementKind.CONSTRUCTOR;
    }

    private Void ruledOut(String what, Tree tree) {
        Check.due(what + at(tree), true, false);
        return null;
    }

    private String at(Tree tree) {
        return " in line " + line(tree);
    }

    private long line(Tree tree) {
        return unit.getLineMap().getLineNumber(Math.max(0, trees.getSourcePositions().getStartPosition(unit, tree)));
    }

    private long lineOfEnd(Tree tree) {
        return unit.getLineMap().getLineNumber(Math.max(0, trees.getSourcePositions().getEndPosition(unit, tree)));
    }
}
