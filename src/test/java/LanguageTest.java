import com.sun.source.tree.AssertTree;
import com.sun.source.tree.AssignmentTree;
import com.sun.source.tree.BinaryTree;
import com.sun.source.tree.CaseTree;
import com.sun.source.tree.ClassTree;
import com.sun.source.tree.CompilationUnitTree;
import com.sun.source.tree.CompoundAssignmentTree;
import com.sun.source.tree.DoWhileLoopTree;
import com.sun.source.tree.EnhancedForLoopTree;
import com.sun.source.tree.ExpressionTree;
import com.sun.source.tree.ForLoopTree;
import com.sun.source.tree.IdentifierTree;
import com.sun.source.tree.InstanceOfTree;
import com.sun.source.tree.LambdaExpressionTree;
import com.sun.source.tree.MemberReferenceTree;
import com.sun.source.tree.MethodInvocationTree;
import com.sun.source.tree.MethodTree;
import com.sun.source.tree.NewArrayTree;
import com.sun.source.tree.NewClassTree;
import com.sun.source.tree.SwitchExpressionTree;
import com.sun.source.tree.SynchronizedTree;
import com.sun.source.tree.ThrowTree;
import com.sun.source.tree.Tree;
import com.sun.source.tree.TryTree;
import com.sun.source.tree.TypeCastTree;
import com.sun.source.tree.UnaryTree;
import com.sun.source.tree.VariableTree;
import com.sun.source.tree.WhileLoopTree;
import com.sun.source.util.JavacTask;
import com.sun.source.util.TreePath;
import com.sun.source.util.TreePathScanner;
import com.sun.source.util.TreeScanner;
import com.sun.source.util.Trees;
import java.io.IOException;
import java.nio.file.Files;
import java.nio.file.Path;
import java.util.ArrayList;
import java.util.LinkedHashMap;
import java.util.LinkedHashSet;
import java.util.List;
import java.util.Map;
import java.util.Set;
import javax.lang.model.element.Element;
import javax.lang.model.element.ElementKind;
import javax.lang.model.element.ExecutableElement;
import javax.lang.model.element.Modifier;
import javax.lang.model.element.TypeElement;
import javax.lang.model.type.ArrayType;
import javax.lang.model.type.DeclaredType;
import javax.lang.model.type.TypeKind;
import javax.lang.model.type.TypeMirror;
import javax.lang.model.util.Elements;
import javax.tools.JavaCompiler;
import javax.tools.StandardJavaFileManager;
import javax.tools.ToolProvider;

/**
 * Rules of ../shared/LANGUAGE.md, looked up in the class as the compiler reads it: what each name
 * stands for is known here, and which bodies a call can run. Where a rule leaves more than the class
 * needs (while, casts, lists), less is let through.
 */
public final class LanguageTest extends TreePathScanner<Void, Void> {
    /** What may be called of the library's classes (rule 4). */
    private static final String LIBRARY = "Math\\.(?!random|.*Exact$)\\w+"
        + "|(Integer|Long)\\.(compare|max|min|bitCount|signum|numberOfTrailingZeros|numberOfLeadingZeros)"
        + "|String\\.(length|charAt|isEmpty|equals|indexOf|substring|toCharArray)"
        + "|StringBuilder\\.(append|charAt|setCharAt|setLength|deleteCharAt|reverse|length|toString)"
        + "|Arrays\\.(copyOf|copyOfRange|fill)|System\\.arraycopy|Object\\.<init>|(int|long|boolean)\\[\\]\\.clone";
    /** Of rule 11; 'some' sixty lines is a tenth more at most. */
    private static final int LONGEST_METHOD = 66, MOST_PARAMETERS = 7, MOST_CLASSES = 12, MOST_FIELDS = 20;
    /** Of rule 11; by those that stand in a circle, each is counted once. */
    private static final int MOST_DEEP = 8;
    private static final Set<TypeKind> NUMBERS = Set.of(TypeKind.INT, TypeKind.LONG, TypeKind.SHORT, TypeKind.BYTE,
        TypeKind.CHAR, TypeKind.BOOLEAN);

    private final Dues dues;
    private final Trees trees;
    private final Elements elements;
    private final CompilationUnitTree unit;
    private final List<TypeElement> classes = new ArrayList<>();
    private final Set<String> faceNames = new LinkedHashSet<>();
    /** Which methods a method calls, by its own words; those that bear super ahead run no other's body. */
    private final Map<ExecutableElement, Set<ExecutableElement>> calls = new LinkedHashMap<>();
    private ExecutableElement current = null;

    private LanguageTest(Dues dues, JavacTask task, CompilationUnitTree unit) {
        this.dues = dues;
        this.trees = Trees.instance(task);
        this.elements = task.getElements();
        this.unit = unit;
    }

    private void rule(int number, Tree at, String what, boolean is) {
        long line = unit.getLineMap().getLineNumber(trees.getSourcePositions().getStartPosition(unit, at));
        dues.holds("rule " + number + ", line " + line + ": " + what, is);
    }

    private void never(int number, Tree at) {
        rule(number, at, "no " + at.getKind(), false);
    }

    private Element elementOf(Tree tree) {
        return trees.getElement(TreePath.getPath(unit, tree));
    }

    private TypeMirror typeOf(Tree tree) {
        return trees.getTypeMirror(TreePath.getPath(unit, tree));
    }

    private static TypeElement classOf(Element member) {
        Element at = member;
        while (!(at instanceof TypeElement)) {
            at = at.getEnclosingElement();
        }
        return (TypeElement) at;
    }

    private boolean isOwn(Element member) {
        return classes.contains(classOf(member));
    }

    private static boolean isText(TypeMirror type) {
        return type.toString().equals("java.lang.String");
    }

    // ---- rules 1, 2, 5, 6, 11, 12: classes, their members, their constructors

    @Override
    public Void visitClass(ClassTree tree, Void none) {
        TypeElement one = (TypeElement) elementOf(tree);
        boolean isFace = getCurrentPath().getParentPath().getLeaf() == unit;
        Set<Modifier> is = one.getModifiers();
        rule(2, tree, "a class that stands in a class, or the face", isFace || one.getEnclosingElement() == classes.get(0));
        rule(2, tree, "static, and private", isFace || is.contains(Modifier.STATIC) && is.contains(Modifier.PRIVATE));
        rule(1, tree, "the face is public and final", !isFace || is.containsAll(Set.of(Modifier.PUBLIC, Modifier.FINAL)));
        int fields = 0;
        for (Element member : one.getEnclosedElements()) {
            fields += member.getKind() == ElementKind.FIELD && !member.getModifiers().contains(Modifier.STATIC) ? 1 : 0;
            boolean isMethod = member.getKind() == ElementKind.METHOD;
            rule(1, tree, member + " bears no name of the face", isFace && member.getModifiers().contains(Modifier.PUBLIC)
                || !isMethod || !faceNames.contains(member.getSimpleName().toString()));
        }
        rule(11, tree, fields + " fields", fields <= MOST_FIELDS);
        for (Tree member : tree.getMembers()) {
            rule(5, member, "no block that begins by itself", member.getKind() != Tree.Kind.BLOCK);
        }
        return super.visitClass(tree, none);
    }

    private long linesOf(Tree tree) {
        long from = trees.getSourcePositions().getStartPosition(unit, tree);
        long to = trees.getSourcePositions().getEndPosition(unit, tree);
        return unit.getLineMap().getLineNumber(to) - unit.getLineMap().getLineNumber(from) + 1;
    }

    @Override
    public Void visitMethod(MethodTree tree, Void none) {
        current = (ExecutableElement) elementOf(tree);
        calls.computeIfAbsent(current, c -> new LinkedHashSet<>());
        String name = tree.getName().toString();
        rule(11, tree, name + " has " + linesOf(tree) + " lines", linesOf(tree) <= LONGEST_METHOD);
        rule(11, tree, name + " takes few parameters", tree.getParameters().size() <= MOST_PARAMETERS);
        rule(6, tree, name + " throws nothing", tree.getThrows().isEmpty());
        rule(6, tree, name + " is none of every object's", !name.matches("equals|hashCode|toString|finalize|clone"));
        if (tree.getReturnType() != null) {
            type(tree.getReturnType());
        }
        super.visitMethod(tree, none);
        current = null;
        return null;
    }

    @Override
    public Void visitVariable(VariableTree tree, Void none) {
        Element one = elementOf(tree);
        type(tree.getType() == null ? tree : tree.getType());
        if (one.getKind() == ElementKind.FIELD && one.getModifiers().contains(Modifier.STATIC)) {
            TypeMirror type = one.asType();
            rule(5, tree, one + " is final", one.getModifiers().contains(Modifier.FINAL));
            rule(5, tree, one + " is a number or a text", NUMBERS.contains(type.getKind()) || isText(type));
        }
        return super.visitVariable(tree, none);
    }

    /** Of rule 12: a constructor hands out nothing of the object that it makes. */
    @Override
    public Void visitIdentifier(IdentifierTree tree, Void none) {
        Tree parent = getCurrentPath().getParentPath().getLeaf();
        boolean isThis = tree.getName().contentEquals("this");
        boolean isMade = current == null || current.getKind() == ElementKind.CONSTRUCTOR;
        rule(12, tree, "this is not handed out", !isThis || !isMade || parent.getKind() == Tree.Kind.MEMBER_SELECT);
        return super.visitIdentifier(tree, none);
    }

    // ---- rules 3, 5: types

    private boolean isKnown(TypeMirror type) {
        if (NUMBERS.contains(type.getKind()) || type.getKind() == TypeKind.VOID) {
            return true;
        }
        if (type instanceof ArrayType array) {
            TypeMirror inner = array.getComponentType();
            boolean isInTwo = inner instanceof ArrayType row && NUMBERS.contains(row.getComponentType().getKind());
            return isInTwo || !(inner instanceof ArrayType) && !isText(inner) && isKnown(inner);
        }
        boolean isBuilder = type.toString().equals("java.lang.StringBuilder");
        return isText(type) || isBuilder || type instanceof DeclaredType own && classes.contains(own.asElement());
    }

    private void type(Tree tree) {
        rule(3, tree, typeOf(tree) + " is a type that there is", isKnown(typeOf(tree)));
    }

    @Override
    public Void visitNewArray(NewArrayTree tree, Void none) {
        type(tree);
        return super.visitNewArray(tree, none);
    }

    // ---- rules 4, 10, 12: calls

    private void called(ExecutableElement one, Tree at) {
        if (current != null && isOwn(one)) {
            calls.get(current).add(one);
        }
        TypeElement from = classOf(one);
        String name = from.getSimpleName() + "." + one.getSimpleName();
        rule(4, at, name + " is there", isOwn(one) || name.matches(LIBRARY));
    }

    /** What else can run by a call that does not say super: the bodies of classes under it. */
    private List<ExecutableElement> overriding(ExecutableElement one) {
        List<ExecutableElement> found = new ArrayList<>();
        for (TypeElement c : classes) {
            for (Element member : c.getEnclosedElements()) {
                if (member instanceof ExecutableElement other && elements.overrides(other, one, c)) {
                    found.add(other);
                }
            }
        }
        return found;
    }

    @Override
    public Void visitMethodInvocation(MethodInvocationTree tree, Void none) {
        ExecutableElement one = (ExecutableElement) elementOf(tree);
        called(one, tree);
        if (isOwn(one) && !tree.getMethodSelect().toString().startsWith("super.")) {
            List<ExecutableElement> others = overriding(one);
            others.forEach(other -> called(other, tree));
            boolean isMade = current == null || current.getKind() == ElementKind.CONSTRUCTOR;
            rule(12, tree, "a constructor calls none that is overridden", !isMade || others.isEmpty());
        }
        return super.visitMethodInvocation(tree, none);
    }

    @Override
    public Void visitNewClass(NewClassTree tree, Void none) {
        rule(2, tree, "no class without a name", tree.getClassBody() == null);
        ExecutableElement made = (ExecutableElement) elementOf(tree);
        rule(3, tree, "an object of a class of its own", isOwn(made) || typeOf(tree).toString().matches("java.lang.String(Builder)?"));
        if (isOwn(made)) {
            called(made, tree);
        }
        return super.visitNewClass(tree, none);
    }

    @Override
    public Void visitBinary(BinaryTree tree, Void none) {
        TypeMirror left = typeOf(tree.getLeftOperand()), right = typeOf(tree.getRightOperand());
        rule(10, tree, "no joining or likening of texts by a sign", !isText(left) && !isText(right));
        if (tree.getKind() == Tree.Kind.DIVIDE || tree.getKind() == Tree.Kind.REMAINDER) {
            divisor(tree.getRightOperand());
        }
        return super.visitBinary(tree, none);
    }

    /** Rule 7: a number, one more than what counts panes, or what a loop keeps above 1. */
    private void divisor(ExpressionTree by) {
        String text = by.toString();
        rule(7, by, text + " is never 0", text.matches("[1-9]\\d*|paneCount \\+ 1|\\(paneCount \\+ 1\\)|common"));
    }

    @Override
    public Void visitCompoundAssignment(CompoundAssignmentTree tree, Void none) {
        rule(10, tree, "no joining of texts by +=", !isText(typeOf(tree.getVariable())));
        if (tree.getKind() == Tree.Kind.DIVIDE_ASSIGNMENT || tree.getKind() == Tree.Kind.REMAINDER_ASSIGNMENT) {
            divisor(tree.getExpression());
        }
        return super.visitCompoundAssignment(tree, none);
    }

    // ---- rule 9: loops

    private static boolean is(Tree tree, String name) {
        return tree instanceof IdentifierTree one && one.getName().contentEquals(name);
    }

    /** Whether nothing in a loop's body sets its counter. */
    private static boolean isLeft(Tree body, String counter) {
        boolean[] isLeft = {true};
        new TreeScanner<Void, Void>() {
            @Override
            public Void visitAssignment(AssignmentTree tree, Void none) {
                isLeft[0] &= !is(tree.getVariable(), counter);
                return super.visitAssignment(tree, none);
            }

            @Override
            public Void visitCompoundAssignment(CompoundAssignmentTree tree, Void none) {
                isLeft[0] &= !is(tree.getVariable(), counter);
                return super.visitCompoundAssignment(tree, none);
            }

            @Override
            public Void visitUnary(UnaryTree tree, Void none) {
                isLeft[0] &= !is(tree.getExpression(), counter) || !tree.getKind().name().contains("CREMENT");
                return super.visitUnary(tree, none);
            }
        }.scan(body, null);
        return isLeft[0];
    }

    /** A counter that steps by 1, against a bound first of all, and that nothing in the loop sets. */
    private static boolean isCounted(ForLoopTree tree) {
        if (tree.getInitializer().size() != 1 || tree.getUpdate().size() != 1 || tree.getCondition() == null
            || !(tree.getInitializer().get(0) instanceof VariableTree first)
            || !(tree.getUpdate().get(0).getExpression() instanceof UnaryTree step)) {
            return false;
        }
        ExpressionTree ends = tree.getCondition();
        while (ends instanceof BinaryTree both && both.getKind() == Tree.Kind.CONDITIONAL_AND) {
            ends = both.getLeftOperand();
        }
        String counter = first.getName().toString();
        boolean isUp = step.getKind() == Tree.Kind.POSTFIX_INCREMENT && ends.getKind().name().startsWith("LESS_THAN");
        boolean isDown = step.getKind() == Tree.Kind.POSTFIX_DECREMENT && ends.getKind().name().startsWith("GREATER_THAN");
        return (isUp || isDown) && is(step.getExpression(), counter) && is(((BinaryTree) ends).getLeftOperand(), counter)
            && isLeft(tree.getStatement(), counter);
    }

    @Override
    public Void visitForLoop(ForLoopTree tree, Void none) {
        rule(9, tree, "a loop whose end can be seen from its own lines", isCounted(tree));
        return super.visitForLoop(tree, none);
    }

    @Override
    public Void visitWhileLoop(WhileLoopTree tree, Void none) {
        never(9, tree);
        return null;
    }

    @Override
    public Void visitDoWhileLoop(DoWhileLoopTree tree, Void none) {
        never(9, tree);
        return null;
    }

    @Override
    public Void visitEnhancedForLoop(EnhancedForLoopTree tree, Void none) {
        type(tree.getExpression());
        return super.visitEnhancedForLoop(tree, none);
    }

    // ---- rules 2, 6: what stands nowhere

    @Override
    public Void visitLambdaExpression(LambdaExpressionTree tree, Void none) {
        never(2, tree);
        return null;
    }

    @Override
    public Void visitMemberReference(MemberReferenceTree tree, Void none) {
        never(2, tree);
        return null;
    }

    @Override
    public Void visitThrow(ThrowTree tree, Void none) {
        never(6, tree);
        return null;
    }

    @Override
    public Void visitTry(TryTree tree, Void none) {
        never(6, tree);
        return null;
    }

    @Override
    public Void visitSynchronized(SynchronizedTree tree, Void none) {
        never(6, tree);
        return null;
    }

    @Override
    public Void visitAssert(AssertTree tree, Void none) {
        never(6, tree);
        return null;
    }

    @Override
    public Void visitSwitchExpression(SwitchExpressionTree tree, Void none) {
        never(6, tree);
        return null;
    }

    @Override
    public Void visitCase(CaseTree tree, Void none) {
        for (ExpressionTree label : tree.getExpressions()) {
            rule(6, tree, "a number stands behind case", NUMBERS.contains(typeOf(label).getKind()));
        }
        return super.visitCase(tree, none);
    }

    @Override
    public Void visitTypeCast(TypeCastTree tree, Void none) {
        rule(6, tree, "casts are of numbers alone", typeOf(tree.getType()).getKind().isPrimitive());
        return super.visitTypeCast(tree, none);
    }

    @Override
    public Void visitInstanceOf(InstanceOfTree tree, Void none) {
        rule(6, tree, "instanceof asks for a class of its own", isOwn(((DeclaredType) typeOf(tree.getType())).asElement()));
        return super.visitInstanceOf(tree, none);
    }

    // ---- rule 11: how deep

    /** How many calls stand open at most from a method on, each that calls itself by others once. */
    private int depth(ExecutableElement from, List<ExecutableElement> open) {
        open.add(from);
        int deepest = 0;
        for (ExecutableElement next : calls.getOrDefault(from, Set.of())) {
            if (!open.contains(next)) {
                deepest = Math.max(deepest, depth(next, open));
            }
        }
        open.remove(open.size() - 1);
        return deepest + 1;
    }

    /** Whether a method can come to run within itself. */
    private boolean isInCircle(ExecutableElement one, ExecutableElement from, Set<ExecutableElement> seen) {
        for (ExecutableElement next : calls.getOrDefault(from, Set.of())) {
            if (next == one || seen.add(next) && isInCircle(one, next, seen)) {
                return true;
            }
        }
        return false;
    }

    private void depths() {
        for (ExecutableElement one : calls.keySet()) {
            int deep = depth(one, new ArrayList<>());
            dues.holds("rule 11: " + one + " goes " + deep + " calls deep", deep <= MOST_DEEP);
            boolean isGuarded = one.getModifiers().contains(Modifier.PRIVATE)
                && one.getParameters().stream().anyMatch(p -> p.getSimpleName().contentEquals("open"));
            boolean isInCircle = isInCircle(one, one, new LinkedHashSet<>());
            dues.holds("rule 8: " + one + " calls itself with a guard", !isInCircle || isGuarded);
        }
    }

    private void go() {
        ClassTree face = (ClassTree) unit.getTypeDecls().get(0);
        rule(1, face, "one class in the file", unit.getTypeDecls().size() == 1 && unit.getPackageName() == null);
        TypeElement face0 = (TypeElement) elementOf(face);
        classes.add(face0);
        new TreeScanner<Void, Void>() {
            @Override
            public Void visitClass(ClassTree tree, Void none) {
                if (tree != face) {
                    classes.add((TypeElement) elementOf(tree));
                }
                return super.visitClass(tree, none);
            }
        }.scan(face, null);
        rule(11, face, classes.size() + " classes", classes.size() <= MOST_CLASSES);
        for (Element member : face0.getEnclosedElements()) {
            if (member.getKind() == ElementKind.METHOD && member.getModifiers().contains(Modifier.PUBLIC)) {
                faceNames.add(member.getSimpleName().toString());
            }
        }
        scan(unit, null);
        depths();
    }

    public static void main(String[] args) throws IOException {
        Dues dues = new Dues();
        Path file = Path.of(args.length > 0 ? args[0] : "src/main/java/FrostBids.java");
        JavaCompiler compiler = ToolProvider.getSystemJavaCompiler();
        StandardJavaFileManager files = compiler.getStandardFileManager(null, null, null);
        JavacTask task = (JavacTask) compiler.getTask(null, files, null, null, null, files.getJavaFileObjects(file));
        CompilationUnitTree unit = task.parse().iterator().next();
        task.analyze();
        new LanguageTest(dues, task, unit).go();
        for (char c : Files.readString(file).toCharArray()) {
            if (c < 1 || c > 127) {
                dues.holds("rule 4: a sign of the text is " + (int) c, false);
            }
        }
        dues.end();
    }
}
