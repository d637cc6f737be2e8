import com.sun.source.tree.*;
import com.sun.source.util.JavacTask;
import com.sun.source.util.SourcePositions;
import com.sun.source.util.TreePathScanner;
import com.sun.source.util.Trees;
import java.nio.file.Path;
import java.util.ArrayList;
import java.util.Arrays;
import java.util.HashMap;
import java.util.HashSet;
import java.util.LinkedHashMap;
import java.util.List;
import java.util.Map;
import java.util.Set;
import javax.lang.model.element.Element;
import javax.lang.model.element.ElementKind;
import javax.lang.model.element.ExecutableElement;
import javax.lang.model.element.Modifier;
import javax.lang.model.element.VariableElement;
import javax.lang.model.type.TypeMirror;
import javax.tools.JavaCompiler;
import javax.tools.StandardJavaFileManager;
import javax.tools.ToolProvider;

/**
 * The rules of LANGUAGE.md, as far as they can be seen in the source, by what the compiler says of
 * it. Where a rule lets more be done than the class does, the test is the narrower one: the class
 * has no try, no while, no list and no recursion, and makes nothing outside constructors.
 */
public final class LanguageTest {
    private static final Path SOURCE = Path.of("src", "main", "java", "RollerHorses.java");
    private static final Set<String> EXCEPTIONS = Set.of("IllegalStateException", "IllegalArgumentException",
        "IndexOutOfBoundsException", "ArithmeticException", "UnsupportedOperationException", "NoSuchElementException",
        "RuntimeException");
    private static final Set<String> LIBRARY = Set.of("java.lang.Math.min", "java.lang.Math.max", "java.lang.Math.abs",
        "java.lang.Math.floorMod", "java.lang.Math.floorDiv", "java.lang.System.arraycopy");
    private static final Set<String> TYPES = Set.of("int", "long", "short", "byte", "char", "boolean", "double", "float",
        "void", "java.lang.String", "java.lang.StringBuilder");
    /** What is ruled out, or not needed, with the number of its rule. */
    private static final Map<Tree.Kind, Integer> RULED_OUT = Map.of(Tree.Kind.LAMBDA_EXPRESSION, 2,
        Tree.Kind.MEMBER_REFERENCE, 2, Tree.Kind.INSTANCE_OF, 6, Tree.Kind.TRY, 6, Tree.Kind.SYNCHRONIZED, 6,
        Tree.Kind.ASSERT, 6, Tree.Kind.ANNOTATION, 4, Tree.Kind.WHILE_LOOP, 9, Tree.Kind.DO_WHILE_LOOP, 9,
        Tree.Kind.ENHANCED_FOR_LOOP, 9);

    /** What is wrong, by rule; it stays empty. */
    private static final Map<Integer, List<String>> WRONG = new LinkedHashMap<>();
    private static final Map<ExecutableElement, Set<ExecutableElement>> CALLS = new HashMap<>();
    private static final Set<ExecutableElement> OWN = new HashSet<>();
    private static int classes = 0;

    public static void main(String[] args) throws Exception {
        JavaCompiler compiler = ToolProvider.getSystemJavaCompiler();
        try (StandardJavaFileManager files = compiler.getStandardFileManager(null, null, null)) {
            JavacTask task = (JavacTask) compiler.getTask(null, files, null, List.of("-proc:none"), null,
                files.getJavaFileObjects(SOURCE));
            CompilationUnitTree unit = task.parse().iterator().next();
            task.analyze();
            look(unit, Trees.instance(task));
        }
        for (int rule = 1; rule <= 13; rule++) {
            int asked = rule;
            Due.is(List.of(), "LANGUAGE.md, rule " + rule, () -> WRONG.getOrDefault(asked, List.of()));
        }
        Due.is(true, "LANGUAGE.md, rule 11: at most twelve classes: " + classes, () -> classes >= 1 && classes <= 12);
        Due.end();
    }

    private static void look(CompilationUnitTree unit, Trees trees) {
        List<String> imports = new ArrayList<>();
        unit.getImports().forEach(one -> imports.add(one.getQualifiedIdentifier().toString()));
        check(13, imports.equals(List.of("java.util.NoSuchElementException")), "imports " + imports);
        check(1, unit.getPackageName() == null && unit.getTypeDecls().size() == 1, "one file, one class, no package");
        new Look(unit, trees).scan(unit, null);
        check(1, OWN.size() > 38, "the methods are found");
        namesOfTheFace();
        for (ExecutableElement method : OWN) {
            int deep = depth(method, new ArrayList<>());
            check(11, deep <= 8, method + " calls " + deep + " deep");
        }
    }

    private static void check(int rule, boolean isSo, String what) {
        if (!isSo) {
            WRONG.computeIfAbsent(rule, r -> new ArrayList<>()).add(what);
        }
    }

    private static void namesOfTheFace() {
        Set<String> face = new HashSet<>();
        for (ExecutableElement method : OWN) {
            if (method.getModifiers().contains(Modifier.PUBLIC)) {
                face.add(method.getSimpleName().toString());
            }
        }
        for (ExecutableElement method : OWN) {
            boolean isOfTheFace = method.getModifiers().contains(Modifier.PUBLIC);
            check(1, isOfTheFace || method.getKind() == ElementKind.CONSTRUCTOR
                || !face.contains(method.getSimpleName().toString()), method + " bears a name of the face");
        }
    }

    /** How many methods stand open at once at most, with this one; a method that is open is not called again. */
    private static int depth(ExecutableElement method, List<ExecutableElement> open) {
        if (open.contains(method)) {
            check(8, false, method + " calls itself");
            return 0;
        }
        open.add(method);
        int deepest = 0;
        for (ExecutableElement called : CALLS.getOrDefault(method, Set.of())) {
            deepest = Math.max(deepest, depth(called, open));
        }
        open.remove(method);
        return deepest + 1;
    }

    private static final class Look extends TreePathScanner<Void, Void> {
        private final CompilationUnitTree unit;
        private final Trees trees;
        private ExecutableElement method = null;
        private int throwing = 0;

        Look(CompilationUnitTree unit, Trees trees) {
            this.unit = unit;
            this.trees = trees;
        }

        private Element element() {
            return trees.getElement(getCurrentPath());
        }

        private int lines(Tree tree) {
            SourcePositions at = trees.getSourcePositions();
            LineMap map = unit.getLineMap();
            long first = map.getLineNumber(at.getStartPosition(unit, tree));
            return (int) (map.getLineNumber(at.getEndPosition(unit, tree)) - first + 1);
        }

        private boolean isOwn(Element element) {
            Element outermost = element;
            while (outermost.getEnclosingElement().getKind() != ElementKind.PACKAGE) {
                outermost = outermost.getEnclosingElement();
            }
            return outermost.getSimpleName().contentEquals("RollerHorses");
        }

        @Override
        public Void scan(Tree tree, Void none) {
            if (tree != null && RULED_OUT.containsKey(tree.getKind())) {
                check(RULED_OUT.get(tree.getKind()), false, "ruled out, or not needed: " + tree);
            }
            return super.scan(tree, none);
        }

        @Override
        public Void visitClass(ClassTree tree, Void none) {
            Set<Modifier> is = element().getModifiers();
            boolean isOutermost = ++classes == 1;
            check(1, isOutermost ? is.equals(Set.of(Modifier.PUBLIC, Modifier.FINAL))
                : is.contains(Modifier.STATIC) && !is.contains(Modifier.PUBLIC) && !is.contains(Modifier.PROTECTED),
                "the class " + tree.getSimpleName());
            int fields = 0;
            for (Tree member : tree.getMembers()) {
                check(5, member.getKind() != Tree.Kind.BLOCK, "an initialiser block in " + tree.getSimpleName());
                boolean isField = member instanceof VariableTree
                    && !((VariableTree) member).getModifiers().getFlags().contains(Modifier.STATIC);
                fields += isField ? 1 : 0;
            }
            check(11, fields <= 20, tree.getSimpleName() + " has " + fields + " fields");
            return super.visitClass(tree, none);
        }

        @Override
        public Void visitVariable(VariableTree tree, Void none) {
            VariableElement variable = (VariableElement) element();
            type(variable.asType(), tree);
            if (variable.getKind() == ElementKind.FIELD) {
                boolean isOfTheOutermost = getCurrentPath().getParentPath().getParentPath().getLeaf() == unit;
                boolean isHidden = variable.getModifiers().contains(Modifier.PRIVATE);
                check(1, !isOfTheOutermost || isHidden, "a field that shows: " + tree);
                check(5, !variable.getModifiers().contains(Modifier.STATIC) || variable.getConstantValue() != null,
                    "a static field that is no constant: " + tree);
            }
            return super.visitVariable(tree, none);
        }

        /** Numbers, texts and own classes, and rows of them in one dimension. */
        private void type(TypeMirror type, Tree tree) {
            String name = type.toString().replaceFirst("\\[\\]$", "");
            check(3, TYPES.contains(name) || name.matches("RollerHorses(\\.\\w+)?"), name + " in " + tree);
        }

        @Override
        public Void visitMethod(MethodTree tree, Void none) {
            method = (ExecutableElement) element();
            OWN.add(method);
            boolean isOfTheOutermost = getCurrentPath().getParentPath().getParentPath().getLeaf() == unit;
            boolean isHidden = method.getModifiers().contains(Modifier.PRIVATE);
            check(1, !isOfTheOutermost || isHidden || method.getModifiers().contains(Modifier.PUBLIC), "shows: " + method);
            check(1, isOfTheOutermost || !method.getModifiers().contains(Modifier.PUBLIC), "is public: " + method);
            check(11, tree.getParameters().size() <= 7, "parameters of " + method);
            // A constructor that nobody wrote has no lines.
            check(11, tree.getBody() == null || lines(tree) <= 60, method + " has " + lines(tree) + " lines");
            type(method.getReturnType(), tree);
            super.visitMethod(tree, none);
            method = null;
            return null;
        }

        @Override
        public Void visitMethodInvocation(MethodInvocationTree tree, Void none) {
            ExecutableElement called = (ExecutableElement) element();
            String name = called.getEnclosingElement() + "." + called.getSimpleName();
            boolean isSuper = name.equals("java.lang.Object.<init>");
            check(4, isOwn(called) || isSuper || LIBRARY.contains(name), "calls " + name);
            called(called);
            return super.visitMethodInvocation(tree, none);
        }

        private void called(ExecutableElement called) {
            if (isOwn(called) && method != null) {
                CALLS.computeIfAbsent(method, m -> new HashSet<>()).add(called);
            }
        }

        @Override
        public Void visitNewClass(NewClassTree tree, Void none) {
            boolean isMade = method == null || method.getKind() == ElementKind.CONSTRUCTOR;
            check(12, isMade || throwing > 0, "made outside a constructor: " + tree);
            check(2, tree.getClassBody() == null, "a class without a name: " + tree);
            called((ExecutableElement) element());
            return super.visitNewClass(tree, none);
        }

        @Override
        public Void visitNewArray(NewArrayTree tree, Void none) {
            boolean isMade = method == null || method.getKind() == ElementKind.CONSTRUCTOR;
            check(12, isMade, "made outside a constructor: " + tree);
            for (ExpressionTree length : tree.getDimensions()) {
                check(7, isConstantAbove(length, -1), "a length that is not looked at: " + tree);
            }
            check(3, tree.getDimensions().size() == 1, "of one dimension: " + tree);
            return super.visitNewArray(tree, none);
        }

        private boolean isConstantAbove(ExpressionTree tree, int bound) {
            Object value = tree instanceof LiteralTree ? ((LiteralTree) tree).getValue() : null;
            Element element = trees.getElement(trees.getPath(unit, tree));
            if (element instanceof VariableElement) {
                value = ((VariableElement) element).getConstantValue();
            }
            return value instanceof Integer && (Integer) value > bound;
        }

        @Override
        public Void visitThrow(ThrowTree tree, Void none) {
            boolean isNew = tree.getExpression() instanceof NewClassTree;
            check(6, isNew, "throws what is not new: " + tree);
            if (isNew) {
                NewClassTree made = (NewClassTree) tree.getExpression();
                check(6, EXCEPTIONS.contains(made.getIdentifier().toString()), "throws " + made);
                for (ExpressionTree argument : made.getArguments()) {
                    check(6, argument.getKind() == Tree.Kind.STRING_LITERAL, "no written text: " + made);
                }
            }
            check(6, method != null && method.getKind() != ElementKind.CONSTRUCTOR, "throws in a constructor: " + tree);
            throwing++;
            super.visitThrow(tree, none);
            throwing--;
            return null;
        }

        @Override
        public Void visitTypeCast(TypeCastTree tree, Void none) {
            check(6, tree.getType() instanceof PrimitiveTypeTree, "a cast, not of numbers: " + tree);
            return super.visitTypeCast(tree, none);
        }

        @Override
        public Void visitForLoop(ForLoopTree tree, Void none) {
            boolean isWhole = tree.getCondition() != null && tree.getUpdate().size() == 1
                && tree.getInitializer().size() == 1 && tree.getInitializer().get(0) instanceof VariableTree;
            boolean hasEnd = isWhole && isCounted((VariableTree) tree.getInitializer().get(0), tree);
            check(9, hasEnd, "no end is seen: " + tree);
            return super.visitForLoop(tree, none);
        }

        /** The counter stands in the condition and in the update, and nothing in the body sets it. */
        private boolean isCounted(VariableTree counter, ForLoopTree tree) {
            String name = counter.getName().toString();
            boolean isBound = Arrays.asList(tree.getCondition().toString().split("\\W+")).contains(name);
            boolean goesOn = tree.getUpdate().get(0).toString().matches(name + "(\\+\\+|--);?");
            boolean isSet = (" " + tree.getStatement()).matches("(?s).*\\W" + name + " *(=[^=]|\\+\\+|--|[-+*/]=).*");
            return isBound && goesOn && !isSet;
        }

        @Override
        public Void visitBinary(BinaryTree tree, Void none) {
            boolean divides = tree.getKind() == Tree.Kind.DIVIDE || tree.getKind() == Tree.Kind.REMAINDER;
            // Of numbers with a fraction the face's two means are, and they look at the divisor themselves.
            boolean hasFraction = tree.getRightOperand().toString().matches("\\((double|float)\\).*");
            boolean isConstant = isConstantAbove(tree.getRightOperand(), 0);
            check(7, !divides || hasFraction || isConstant, "a divisor that is not looked at: " + tree);
            TypeMirror left = trees.getTypeMirror(trees.getPath(unit, tree.getLeftOperand()));
            TypeMirror right = trees.getTypeMirror(trees.getPath(unit, tree.getRightOperand()));
            check(10, left.getKind().isPrimitive() && right.getKind().isPrimitive(), "not of numbers: " + tree);
            return super.visitBinary(tree, none);
        }
    }
}
