import com.sun.source.tree.*;
import com.sun.source.util.JavacTask;
import com.sun.source.util.TreePath;
import com.sun.source.util.TreePathScanner;
import com.sun.source.util.Trees;
import java.io.IOException;
import java.nio.file.Path;
import java.util.ArrayList;
import java.util.LinkedHashMap;
import java.util.LinkedHashSet;
import java.util.List;
import java.util.Map;
import java.util.Set;
import java.util.TreeSet;
import javax.lang.model.element.Element;
import javax.lang.model.element.ElementKind;
import javax.lang.model.element.Modifier;
import javax.lang.model.element.VariableElement;
import javax.lang.model.type.TypeMirror;
import javax.tools.JavaCompiler;
import javax.tools.StandardJavaFileManager;
import javax.tools.ToolProvider;

/**
 * The rules of LANGUAGE.md, as far as they can be seen in the program's tree. It asks for more than they do in places:
 * what the program does not need is not looked at closer, but refused.
 */
final class LanguageTest {
    private static final Path SOURCE = Path.of("src", "main", "java", "BathtubTides.java");
    private static final Check check = new Check("LanguageTest");

    private static final Set<String> TYPES = Set.of("int", "char", "boolean", "double", "float", "void", "int[]",
            "java.lang.String", "java.lang.StringBuilder");

    private static final Set<String> EXCEPTIONS = Set.of("IllegalStateException", "IllegalArgumentException",
            "IndexOutOfBoundsException", "ArithmeticException", "UnsupportedOperationException",
            "NoSuchElementException", "RuntimeException");

    private static final Set<String> LIBRARY = Set.of("java.lang.String.length()", "java.lang.String.charAt(int)",
            "java.lang.StringBuilder.append(char)", "java.lang.StringBuilder.append(int)",
            "java.lang.AbstractStringBuilder.length()", "java.lang.AbstractStringBuilder.charAt(int)",
            "java.lang.StringBuilder.length()", "java.lang.StringBuilder.charAt(int)",
            "java.lang.StringBuilder.setLength(int)", "java.lang.AbstractStringBuilder.setLength(int)",
            "java.lang.Math.min(int,int)", "java.lang.Math.max(int,int)", "java.lang.Math.abs(int)");

    private static final Set<Tree.Kind> REFUSED = Set.of(Tree.Kind.LAMBDA_EXPRESSION, Tree.Kind.MEMBER_REFERENCE,
            Tree.Kind.TRY, Tree.Kind.SYNCHRONIZED, Tree.Kind.ASSERT, Tree.Kind.INSTANCE_OF, Tree.Kind.NULL_LITERAL,
            Tree.Kind.ENHANCED_FOR_LOOP, Tree.Kind.DO_WHILE_LOOP, Tree.Kind.DIVIDE_ASSIGNMENT,
            Tree.Kind.REMAINDER_ASSIGNMENT, Tree.Kind.SWITCH_EXPRESSION);

    private static final int CALL_DEPTH = 8;
    private static final int METHOD_LINES = 60;
    private static final int PARAMETERS = 7;
    private static final int CLASSES = 12;
    private static final int FIELDS = 20;

    private LanguageTest() {
    }

    public static void main(String[] args) throws IOException {
        JavaCompiler compiler = ToolProvider.getSystemJavaCompiler();
        try (StandardJavaFileManager files = compiler.getStandardFileManager(null, null, null)) {
            JavacTask task = (JavacTask) compiler.getTask(null, files, null, List.of("-proc:none"), null,
                    files.getJavaFileObjects(SOURCE));
            CompilationUnitTree unit = task.parse().iterator().next();
            task.analyze();
            Rules rules = new Rules(Trees.instance(task), unit);
            rules.scan(unit, null);
            rules.end();
        }
        check.close();
    }

    private static final class Rules extends TreePathScanner<Void, Void> {
        private final Trees trees;
        private final CompilationUnitTree unit;
        private final Map<String, Set<String>> calls = new LinkedHashMap<>();
        private final Set<String> broken = new TreeSet<>();
        private int classes = 0;
        private String method = "";
        private String methodText = "";
        private boolean inConstructor = false;
        private boolean inThrow = false;

        Rules(Trees trees, CompilationUnitTree unit) {
            this.trees = trees;
            this.unit = unit;
        }

        private void rule(int number, boolean kept, Tree where) {
            if (!kept) {
                long line = unit.getLineMap().getLineNumber(trees.getSourcePositions().getStartPosition(unit, where));
                broken.add("rule " + number + ", line " + line + ": " + where.toString().strip().split("\n")[0]);
            }
        }

        private Element element(Tree tree) {
            return trees.getElement(new TreePath(getCurrentPath(), tree));
        }

        private TypeMirror type(Tree tree) {
            return trees.getTypeMirror(new TreePath(getCurrentPath(), tree));
        }

        private boolean isType(Tree tree, String name) {
            TypeMirror type = type(tree);
            return type != null && type.toString().equals(name);
        }

        /** Own classes begin with the name of the class. */
        private static boolean isAllowed(TypeMirror type) {
            String name = type.toString();
            return TYPES.contains(name) || name.equals("BathtubTides") || name.startsWith("BathtubTides.");
        }

        void end() {
            check.same("the rules that are broken", Set.of(), broken);
            check.same("at most some twelve classes", true, classes <= CLASSES);
            for (String name : calls.keySet()) {
                check.same("the depth of " + name, true, depth(name, new LinkedHashSet<>()) <= CALL_DEPTH);
            }
        }

        /** A library's method counts as one call. Recursion, which the program does not need, is too deep. */
        private int depth(String name, Set<String> open) {
            if (!open.add(name)) {
                return CALL_DEPTH + 1;
            }
            int deepest = 0;
            for (String called : calls.getOrDefault(name, Set.of())) {
                deepest = Math.max(deepest, depth(called, open));
            }
            open.remove(name);
            return deepest + 1;
        }

        @Override
        public Void scan(Tree tree, Void none) {
            if (tree != null) {
                rule(6, !REFUSED.contains(tree.getKind()), tree);
            }
            return super.scan(tree, none);
        }

        @Override
        public Void visitCompilationUnit(CompilationUnitTree tree, Void none) {
            rule(1, tree.getPackageName() == null && tree.getTypeDecls().size() == 1, tree);
            return super.visitCompilationUnit(tree, none);
        }

        @Override
        public Void visitImport(ImportTree tree, Void none) {
            rule(4, tree.toString().strip().equals("import java.util.NoSuchElementException;"), tree);
            return null;
        }

        @Override
        public Void visitClass(ClassTree tree, Void none) {
            classes++;
            Set<Modifier> flags = tree.getModifiers().getFlags();
            boolean outer = classes == 1;
            rule(1, flags.equals(outer ? Set.of(Modifier.PUBLIC, Modifier.FINAL)
                    : Set.of(Modifier.PRIVATE, Modifier.STATIC, Modifier.FINAL)), tree);
            rule(2, tree.getKind() == Tree.Kind.CLASS && tree.getExtendsClause() == null
                    && tree.getImplementsClause().isEmpty(), tree);
            int fields = 0;
            for (Tree member : tree.getMembers()) {
                rule(5, !(member instanceof BlockTree), member);
                if (member instanceof VariableTree field) {
                    fields += field.getModifiers().getFlags().contains(Modifier.STATIC) ? 0 : 1;
                    checkField(field, outer);
                }
            }
            rule(11, fields <= FIELDS, tree);
            return super.visitClass(tree, none);
        }

        private void checkField(VariableTree field, boolean outer) {
            Set<Modifier> flags = field.getModifiers().getFlags();
            rule(1, !outer || flags.contains(Modifier.PRIVATE), field);
            if (flags.contains(Modifier.STATIC)) {
                rule(5, flags.contains(Modifier.FINAL) && element(field) instanceof VariableElement constant
                        && constant.getConstantValue() != null, field);
            }
        }

        @Override
        public Void visitVariable(VariableTree tree, Void none) {
            rule(3, isAllowed(type(tree)), tree);
            return super.visitVariable(tree, none);
        }

        @Override
        public Void visitMethod(MethodTree tree, Void none) {
            Element it = trees.getElement(getCurrentPath());
            method = it.getEnclosingElement() + "." + it;
            methodText = tree.toString();
            calls.putIfAbsent(method, new LinkedHashSet<>());
            inConstructor = it.getKind() == ElementKind.CONSTRUCTOR;
            rule(3, tree.getReturnType() == null || isAllowed(type(tree.getReturnType())), tree);
            rule(11, tree.getParameters().size() <= PARAMETERS, tree);
            long from = trees.getSourcePositions().getStartPosition(unit, tree);
            long to = trees.getSourcePositions().getEndPosition(unit, tree);
            rule(11, to < 0 || lineOf(to) - lineOf(from) < METHOD_LINES, tree);
            super.visitMethod(tree, none);
            inConstructor = false;
            method = "";
            return null;
        }

        private long lineOf(long position) {
            return unit.getLineMap().getLineNumber(position);
        }

        @Override
        public Void visitMethodInvocation(MethodInvocationTree tree, Void none) {
            Element called = element(tree.getMethodSelect());
            String name = called.getEnclosingElement() + "." + called;
            boolean own = name.startsWith("BathtubTides");
            rule(4, own || LIBRARY.contains(name) || name.equals("java.lang.Object.Object()"), tree);
            if (called.getKind() != ElementKind.CONSTRUCTOR) {
                calls.getOrDefault(method, new LinkedHashSet<>()).add(name);
            }
            return super.visitMethodInvocation(tree, none);
        }

        @Override
        public Void visitThrow(ThrowTree tree, Void none) {
            rule(6, !inConstructor && tree.getExpression() instanceof NewClassTree, tree);
            inThrow = true;
            super.visitThrow(tree, none);
            inThrow = false;
            return null;
        }

        /** Nothing that is kept is made outside of a constructor and the fields. */
        @Override
        public Void visitNewClass(NewClassTree tree, Void none) {
            String made = tree.getIdentifier().toString();
            if (inThrow) {
                rule(6, EXCEPTIONS.contains(made) && tree.getArguments().size() == 1
                        && tree.getArguments().get(0).getKind() == Tree.Kind.STRING_LITERAL, tree);
            } else {
                rule(12, method.isEmpty() || inConstructor, tree);
            }
            rule(2, tree.getClassBody() == null, tree);
            return super.visitNewClass(tree, none);
        }

        @Override
        public Void visitNewArray(NewArrayTree tree, Void none) {
            rule(12, inConstructor && methodText.contains("length < 0 ? 0 : length"), tree);
            return super.visitNewArray(tree, none);
        }

        /** The tests of an index stand in Row alone, and there in the very method. */
        @Override
        public Void visitArrayAccess(ArrayAccessTree tree, Void none) {
            String index = tree.getIndex().toString();
            rule(7, method.startsWith("BathtubTides.Row.") && (methodText.contains(index + " < 0 || " + index + " >= ")
                    || methodText.contains(index + " >= 0 && " + index + " < ")), tree);
            return super.visitArrayAccess(tree, none);
        }

        @Override
        public Void visitBinary(BinaryTree tree, Void none) {
            ExpressionTree right = tree.getRightOperand();
            switch (tree.getKind()) {
                case DIVIDE, REMAINDER -> rule(7, isSafeDivisor(right), tree);
                case PLUS -> rule(10, !isType(tree, "java.lang.String"), tree);
                case EQUAL_TO, NOT_EQUAL_TO -> rule(6, !isType(right, "java.lang.String"), tree);
                default -> { }
            }
            return super.visitBinary(tree, none);
        }

        @Override
        public Void visitCompoundAssignment(CompoundAssignmentTree tree, Void none) {
            rule(10, !isType(tree.getVariable(), "java.lang.String"), tree);
            return super.visitCompoundAssignment(tree, none);
        }

        /** The program needs no cast but of a number. */
        @Override
        public Void visitTypeCast(TypeCastTree tree, Void none) {
            rule(6, type(tree.getType()).getKind().isPrimitive(), tree);
            return super.visitTypeCast(tree, none);
        }

        private boolean isSafeDivisor(ExpressionTree divisor) {
            if (divisor instanceof TypeCastTree cast) {
                return isSafeDivisor(cast.getExpression());
            }
            if (divisor instanceof LiteralTree literal) {
                return literal.getValue() instanceof Integer number && number != 0;
            }
            if (element(divisor) instanceof VariableElement constant && constant.getConstantValue() != null) {
                return !constant.getConstantValue().equals(0);
            }
            String text = methodText.replaceAll("\\s+", " ");
            return text.contains(divisor + " < 1 ?") || text.contains(divisor + " >= 1 &&")
                    || text.contains("if (" + divisor + " == 0) { throw ");
        }

        /** A for loop counts up to a bound, a while loop counts up in its own lines. */
        @Override
        public Void visitForLoop(ForLoopTree tree, Void none) {
            List<String> steps = new ArrayList<>();
            tree.getUpdate().forEach(step -> steps.add(step.toString()));
            String counter = tree.getInitializer().isEmpty() ? ""
                    : ((VariableTree) tree.getInitializer().get(0)).getName().toString();
            rule(9, steps.equals(List.of(counter + "++;")) && isBound(tree.getCondition().toString(), counter), tree);
            return super.visitForLoop(tree, none);
        }

        @Override
        public Void visitWhileLoop(WhileLoopTree tree, Void none) {
            String condition = tree.getCondition().toString().replaceFirst("^\\(+", "");
            String counter = condition.split(" ")[0];
            rule(9, isBound(condition, counter) && tree.getStatement().toString().contains(counter + "++;"), tree);
            return super.visitWhileLoop(tree, none);
        }

        private static boolean isBound(String condition, String counter) {
            return condition.startsWith(counter + " < ") || condition.startsWith(counter + " <= ");
        }
    }
}
