import com.sun.source.tree.ArrayAccessTree;
import com.sun.source.tree.AssertTree;
import com.sun.source.tree.AssignmentTree;
import com.sun.source.tree.BinaryTree;
import com.sun.source.tree.BlockTree;
import com.sun.source.tree.ClassTree;
import com.sun.source.tree.CompilationUnitTree;
import com.sun.source.tree.CompoundAssignmentTree;
import com.sun.source.tree.DoWhileLoopTree;
import com.sun.source.tree.EnhancedForLoopTree;
import com.sun.source.tree.ExpressionTree;
import com.sun.source.tree.ForLoopTree;
import com.sun.source.tree.IdentifierTree;
import com.sun.source.tree.LambdaExpressionTree;
import com.sun.source.tree.LineMap;
import com.sun.source.tree.MemberReferenceTree;
import com.sun.source.tree.MethodInvocationTree;
import com.sun.source.tree.MethodTree;
import com.sun.source.tree.NewArrayTree;
import com.sun.source.tree.NewClassTree;
import com.sun.source.tree.SynchronizedTree;
import com.sun.source.tree.ThrowTree;
import com.sun.source.tree.Tree;
import com.sun.source.tree.TryTree;
import com.sun.source.tree.TypeCastTree;
import com.sun.source.tree.UnaryTree;
import com.sun.source.tree.VariableTree;
import com.sun.source.tree.WhileLoopTree;
import com.sun.source.util.JavacTask;
import com.sun.source.util.TreePath;
import com.sun.source.util.TreePathScanner;
import com.sun.source.util.TreeScanner;
import com.sun.source.util.Trees;
import java.io.IOException;
import java.nio.charset.StandardCharsets;
import java.nio.file.Files;
import java.nio.file.Path;
import java.util.HashSet;
import java.util.List;
import java.util.Map;
import java.util.Set;
import java.util.TreeMap;
import java.util.TreeSet;
import javax.lang.model.element.Element;
import javax.lang.model.element.ElementKind;
import javax.lang.model.element.ExecutableElement;
import javax.lang.model.element.Modifier;
import javax.lang.model.element.VariableElement;
import javax.lang.model.type.TypeMirror;
import javax.tools.JavaCompiler;
import javax.tools.StandardJavaFileManager;
import javax.tools.ToolProvider;

/** The program keeps to those rules of LANGUAGE.md that the compiler's own tree of the file shows. */
public final class RulesTest extends TreePathScanner<Void, Void> {
    private static final Path FILE = Path.of("src/main/java/SecretEnds.java");
    private static final String OWN = "SecretEnds";
    private static final int MOST_CLASSES = 12;
    private static final int MOST_FIELDS = 20;
    private static final int MOST_LINES = 60;
    private static final int MOST_PARAMETERS = 7;
    private static final int DEEPEST = 8;

    private static final Set<String> PLAIN = Set.of("int", "long", "short", "byte", "char", "boolean");
    private static final Set<String> CONSTANTS = Set.of("int", "long", "boolean", "char", "java.lang.String",
        "int[]", "long[]", "char[]", "byte[]");
    // What rule 4 leaves, as far as the program uses any of it; a new one is looked up there first.
    private static final Set<String> LIBRARY = Set.of("java.lang.Math.max(int,int)", "java.lang.String.length()",
        "java.lang.String.charAt(int)");

    private final Trees trees;
    private final CompilationUnitTree unit;
    private final Map<String, Set<String>> calls = new TreeMap<>();
    private final Set<String> faceNames = new TreeSet<>();
    private final Set<String> insideNames = new TreeSet<>();
    private final Set<String> open = new HashSet<>();
    private int classes = 0;

    private RulesTest(Trees trees, CompilationUnitTree unit) {
        this.trees = trees;
        this.unit = unit;
    }

    public static void main(String[] args) throws IOException {
        String text = Files.readString(FILE, StandardCharsets.UTF_8);
        Check.due("rule 3: texts hold plain characters", text.chars().allMatch(c -> c < 128), true);
        JavaCompiler compiler = ToolProvider.getSystemJavaCompiler();
        try (StandardJavaFileManager files = compiler.getStandardFileManager(null, null, null)) {
            JavacTask task = (JavacTask) compiler.getTask(null, files, null, List.of("-proc:none"), null,
                files.getJavaFileObjects(FILE));
            CompilationUnitTree unit = task.parse().iterator().next();
            task.analyze();
            new RulesTest(Trees.instance(task), unit).go();
        }
        Check.finish();
    }

    private void go() {
        Check.due("no package", unit.getPackageName() == null, true);
        Check.due("rule 4: imports", unit.getImports().size(), 0);
        Check.due("one class of the file's own level", unit.getTypeDecls().size(), 1);
        scan(unit, null);
        Check.due("rule 11: at most " + MOST_CLASSES + " classes (" + classes + ")", classes <= MOST_CLASSES, true);
        for (String name : insideNames) {
            Check.due("rule 1: a method inside bears the public name " + name, faceNames.contains(name), false);
        }
        for (String caller : calls.keySet()) {
            int depth = depth(caller);
            Check.due("rule 11: calls from " + caller + " go " + depth + " deep", depth <= DEEPEST, true);
        }
        Check.due("calls were found", calls.size() > 100, true);
    }

    /** How many calls stand open at once, this one and the library's among them. */
    private int depth(String method) {
        open.add(method);
        int deepest = 0;
        for (String next : calls.getOrDefault(method, Set.of())) {
            boolean again = open.contains(next);
            Check.due("rule 8: " + method + " calls " + next + " while that stands open", again, false);
            deepest = Math.max(deepest, again ? 0 : depth(next));
        }
        open.remove(method);
        return deepest + 1;
    }

    private String at(Tree tree) {
        LineMap lines = unit.getLineMap();
        return "line " + lines.getLineNumber(trees.getSourcePositions().getStartPosition(unit, tree)) + ": ";
    }

    private void refuse(String rule, Tree tree) {
        Check.due(at(tree) + rule, false, true);
    }

    private TypeMirror typeOf(Tree tree) {
        return trees.getTypeMirror(new TreePath(getCurrentPath(), tree));
    }

    private ExecutableElement method() {
        for (TreePath path = getCurrentPath(); path != null; path = path.getParentPath()) {
            if (path.getLeaf() instanceof MethodTree) {
                return (ExecutableElement) trees.getElement(path);
            }
        }
        return null;
    }

    private static String nameOf(ExecutableElement method) {
        return method.getEnclosingElement() + "." + method;
    }

    private static boolean isOwn(String type) {
        return type.equals(OWN) || type.startsWith(OWN + ".");
    }

    @Override
    public Void visitClass(ClassTree tree, Void none) {
        classes++;
        Tree around = getCurrentPath().getParentPath().getLeaf();
        Set<Modifier> modifiers = tree.getModifiers().getFlags();
        if (around != unit) {
            Check.due(at(tree) + "rule 2: no local or anonymous class", around instanceof ClassTree, true);
            Check.due(at(tree) + "rule 2: classes inside are static", modifiers.contains(Modifier.STATIC), true);
            boolean hidden = !modifiers.contains(Modifier.PUBLIC) && !modifiers.contains(Modifier.PROTECTED);
            Check.due(at(tree) + "rule 1: classes inside are private or package-visible", hidden, true);
        }
        int fields = 0;
        for (Tree member : tree.getMembers()) {
            Check.due(at(member) + "rule 5: no initialiser block", member instanceof BlockTree, false);
            if (member instanceof VariableTree) {
                fields += ((VariableTree) member).getModifiers().getFlags().contains(Modifier.STATIC) ? 0 : 1;
            }
        }
        Check.due(at(tree) + "rule 11: at most " + MOST_FIELDS + " fields", fields <= MOST_FIELDS, true);
        return super.visitClass(tree, none);
    }

    @Override
    public Void visitMethod(MethodTree tree, Void none) {
        LineMap lines = unit.getLineMap();
        long first = lines.getLineNumber(trees.getSourcePositions().getStartPosition(unit, tree));
        long last = lines.getLineNumber(trees.getSourcePositions().getEndPosition(unit, tree));
        Check.due(at(tree) + "rule 11: at most " + MOST_LINES + " lines", last - first < MOST_LINES, true);
        int parameters = tree.getParameters().size();
        Check.due(at(tree) + "rule 11: at most " + MOST_PARAMETERS + " parameters", parameters <= MOST_PARAMETERS, true);
        ExecutableElement method = (ExecutableElement) trees.getElement(getCurrentPath());
        calls.putIfAbsent(nameOf(method), new TreeSet<>());
        boolean face = method.getModifiers().contains(Modifier.PUBLIC);
        if (method.getKind() == ElementKind.METHOD) {
            (face ? faceNames : insideNames).add(method.getSimpleName().toString());
            String answers = method.getReturnType().toString();
            Check.due(at(tree) + "rule 3: " + answers, answers.equals("void") || isAllowed(answers), true);
        }
        return super.visitMethod(tree, none);
    }

    private static boolean isAllowed(String type) {
        String bare = type.replace("[]", "");
        int dimensions = (type.length() - bare.length()) / 2;
        boolean one = isOwn(bare) || bare.equals("java.lang.String");
        return PLAIN.contains(bare) && dimensions <= 2 || one && dimensions <= 1;
    }

    @Override
    public Void visitVariable(VariableTree tree, Void none) {
        VariableElement variable = (VariableElement) trees.getElement(getCurrentPath());
        String type = variable.asType().toString();
        Check.due(at(tree) + "rule 3: " + type, isAllowed(type), true);
        if (variable.getModifiers().contains(Modifier.STATIC)) {
            Check.due(at(tree) + "rule 5: final", variable.getModifiers().contains(Modifier.FINAL), true);
            Check.due(at(tree) + "rule 5: " + type, CONSTANTS.contains(type), true);
            boolean fixed = variable.getConstantValue() != null || tree.getInitializer() instanceof NewArrayTree;
            Check.due(at(tree) + "rule 5: a constant, or an array that is written out", fixed, true);
        }
        return super.visitVariable(tree, none);
    }

    @Override
    public Void visitMethodInvocation(MethodInvocationTree tree, Void none) {
        ExecutableElement called = (ExecutableElement) trees.getElement(getCurrentPath());
        String name = nameOf(called);
        // Every constructor begins with that of Object, which the compiler writes in.
        if (!name.equals("java.lang.Object.Object()")) {
            boolean own = isOwn(called.getEnclosingElement().toString());
            Check.due(at(tree) + "rule 4: " + name, own || LIBRARY.contains(name), true);
            addCall(called);
        }
        return super.visitMethodInvocation(tree, none);
    }

    private void addCall(ExecutableElement called) {
        ExecutableElement caller = method();
        if (caller != null) {
            calls.computeIfAbsent(nameOf(caller), k -> new TreeSet<>()).add(nameOf(called));
        }
    }

    private void dueInConstructor(Tree tree) {
        ExecutableElement maker = method();
        boolean once = maker == null || maker.getKind() == ElementKind.CONSTRUCTOR;
        Check.due(at(tree) + "rule 12: made by a constructor, so that no call makes any", once, true);
    }

    @Override
    public Void visitNewClass(NewClassTree tree, Void none) {
        ExecutableElement called = (ExecutableElement) trees.getElement(getCurrentPath());
        Check.due(at(tree) + "rule 4: " + called, isOwn(called.getEnclosingElement().toString()), true);
        Check.due(at(tree) + "rule 2: no anonymous class", tree.getClassBody() == null, true);
        dueInConstructor(tree);
        addCall(called);
        return super.visitNewClass(tree, none);
    }

    @Override
    public Void visitNewArray(NewArrayTree tree, Void none) {
        dueInConstructor(tree);
        return super.visitNewArray(tree, none);
    }

    @Override
    public Void visitTypeCast(TypeCastTree tree, Void none) {
        String type = typeOf(tree.getType()).toString();
        Check.due(at(tree) + "rule 6: a cast to " + type, PLAIN.contains(type), true);
        return super.visitTypeCast(tree, none);
    }

    @Override
    public Void visitBinary(BinaryTree tree, Void none) {
        boolean text = typeOf(tree.getLeftOperand()).toString().equals("java.lang.String")
            || typeOf(tree.getRightOperand()).toString().equals("java.lang.String");
        Check.due(at(tree) + "rules 6 and 10: no + and no == of texts", text, false);
        if (tree.getKind() == Tree.Kind.DIVIDE || tree.getKind() == Tree.Kind.REMAINDER) {
            dueDivisor(tree, tree.getRightOperand());
        }
        return super.visitBinary(tree, none);
    }

    /** Rule 7: a constant, a length of an array of constants, or looked at in the same condition. */
    private void dueDivisor(Tree tree, ExpressionTree divisor) {
        Element element = trees.getElement(new TreePath(getCurrentPath(), divisor));
        boolean constant = divisor.getKind() == Tree.Kind.INT_LITERAL
            || element instanceof VariableElement && ((VariableElement) element).getConstantValue() != null
            || divisor.toString().matches("[A-Z]+\\.length");
        boolean lookedAt = false;
        for (TreePath path = getCurrentPath(); path.getLeaf() instanceof ExpressionTree; path = path.getParentPath()) {
            lookedAt |= path.getLeaf().toString().startsWith(divisor + " > 0 && ");
        }
        Check.due(at(tree) + "rule 7: the divisor " + divisor, constant || lookedAt, true);
    }

    @Override
    public Void visitCompoundAssignment(CompoundAssignmentTree tree, Void none) {
        boolean divides = tree.getKind() == Tree.Kind.DIVIDE_ASSIGNMENT || tree.getKind() == Tree.Kind.REMAINDER_ASSIGNMENT;
        Check.due(at(tree) + "rule 7: a divisor that nobody looks at", divides, false);
        dueOwnElement(tree.getVariable());
        return super.visitCompoundAssignment(tree, none);
    }

    @Override
    public Void visitAssignment(AssignmentTree tree, Void none) {
        dueOwnElement(tree.getVariable());
        return super.visitAssignment(tree, none);
    }

    @Override
    public Void visitUnary(UnaryTree tree, Void none) {
        if (isStep(tree)) {
            dueOwnElement(tree.getExpression());
        }
        return super.visitUnary(tree, none);
    }

    private static boolean isStep(UnaryTree tree) {
        switch (tree.getKind()) {
            case POSTFIX_INCREMENT:
            case POSTFIX_DECREMENT:
            case PREFIX_INCREMENT:
            case PREFIX_DECREMENT:
                return true;
            default:
                return false;
        }
    }

    private void dueOwnElement(ExpressionTree changed) {
        if (changed instanceof ArrayAccessTree) {
            TreePath path = new TreePath(getCurrentPath(), changed);
            Element array = trees.getElement(new TreePath(path, ((ArrayAccessTree) changed).getExpression()));
            boolean fixed = array != null && array.getModifiers().contains(Modifier.STATIC);
            Check.due(at(changed) + "rule 5: an array of constants is changed", fixed, false);
        }
    }

    @Override
    public Void visitForLoop(ForLoopTree tree, Void none) {
        boolean bound = tree.getCondition() != null && changed(tree.getUpdate(), tree.getCondition());
        Check.due(at(tree) + "rule 9: its lines show its end", bound, true);
        return super.visitForLoop(tree, none);
    }

    @Override
    public Void visitWhileLoop(WhileLoopTree tree, Void none) {
        boolean bound = changed(List.of(tree.getStatement()), tree.getCondition());
        Check.due(at(tree) + "rule 9: its lines show its end", bound, true);
        return super.visitWhileLoop(tree, none);
    }

    @Override
    public Void visitDoWhileLoop(DoWhileLoopTree tree, Void none) {
        boolean bound = changed(List.of(tree.getStatement()), tree.getCondition());
        Check.due(at(tree) + "rule 9: its lines show its end", bound, true);
        return super.visitDoWhileLoop(tree, none);
    }

    @Override
    public Void visitEnhancedForLoop(EnhancedForLoopTree tree, Void none) {
        boolean array = typeOf(tree.getExpression()).toString().endsWith("[]");
        Check.due(at(tree) + "rule 12: a for over an array alone makes nothing", array, true);
        return super.visitEnhancedForLoop(tree, none);
    }

    /** Whether these lines change something that the condition looks at. */
    private static boolean changed(List<? extends Tree> lines, ExpressionTree condition) {
        Set<String> looked = new HashSet<>();
        new TreeScanner<Void, Void>() {
            @Override
            public Void visitIdentifier(IdentifierTree tree, Void none) {
                looked.add(tree.getName().toString());
                return null;
            }
        }.scan(condition, null);
        Set<String> stepped = new HashSet<>();
        new TreeScanner<Void, Void>() {
            @Override
            public Void visitUnary(UnaryTree tree, Void none) {
                if (isStep(tree)) {
                    stepped.add(tree.getExpression().toString());
                }
                return super.visitUnary(tree, none);
            }

            @Override
            public Void visitCompoundAssignment(CompoundAssignmentTree tree, Void none) {
                stepped.add(tree.getVariable().toString());
                return super.visitCompoundAssignment(tree, none);
            }
        }.scan(lines, null);
        stepped.retainAll(looked);
        return !stepped.isEmpty();
    }

    @Override
    public Void visitLambdaExpression(LambdaExpressionTree tree, Void none) {
        refuse("rule 2: no lambda", tree);
        return super.visitLambdaExpression(tree, none);
    }

    @Override
    public Void visitMemberReference(MemberReferenceTree tree, Void none) {
        refuse("rule 2: no method reference", tree);
        return super.visitMemberReference(tree, none);
    }

    @Override
    public Void visitThrow(ThrowTree tree, Void none) {
        refuse("rule 6: no throw", tree);
        return super.visitThrow(tree, none);
    }

    @Override
    public Void visitTry(TryTree tree, Void none) {
        refuse("rule 6: no try", tree);
        return super.visitTry(tree, none);
    }

    @Override
    public Void visitSynchronized(SynchronizedTree tree, Void none) {
        refuse("rule 6: no synchronized", tree);
        return super.visitSynchronized(tree, none);
    }

    @Override
    public Void visitAssert(AssertTree tree, Void none) {
        refuse("rule 6: no assert", tree);
        return super.visitAssert(tree, none);
    }
}
