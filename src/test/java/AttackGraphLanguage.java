import com.sun.source.tree.AnnotationTree;
import com.sun.source.tree.AssertTree;
import com.sun.source.tree.AssignmentTree;
import com.sun.source.tree.BinaryTree;
import com.sun.source.tree.BlockTree;
import com.sun.source.tree.ClassTree;
import com.sun.source.tree.CompilationUnitTree;
import com.sun.source.tree.CompoundAssignmentTree;
import com.sun.source.tree.DoWhileLoopTree;
import com.sun.source.tree.EnhancedForLoopTree;
import com.sun.source.tree.ExpressionStatementTree;
import com.sun.source.tree.ExpressionTree;
import com.sun.source.tree.ForLoopTree;
import com.sun.source.tree.IdentifierTree;
import com.sun.source.tree.InstanceOfTree;
import com.sun.source.tree.LambdaExpressionTree;
import com.sun.source.tree.LiteralTree;
import com.sun.source.tree.MemberReferenceTree;
import com.sun.source.tree.MemberSelectTree;
import com.sun.source.tree.MethodInvocationTree;
import com.sun.source.tree.MethodTree;
import com.sun.source.tree.NewArrayTree;
import com.sun.source.tree.NewClassTree;
import com.sun.source.tree.ParenthesizedTree;
import com.sun.source.tree.StatementTree;
import com.sun.source.tree.SynchronizedTree;
import com.sun.source.tree.ThrowTree;
import com.sun.source.tree.Tree;
import com.sun.source.tree.TryTree;
import com.sun.source.tree.TypeCastTree;
import com.sun.source.tree.UnaryTree;
import com.sun.source.tree.VariableTree;
import com.sun.source.tree.WhileLoopTree;
import com.sun.source.util.JavacTask;
import com.sun.source.util.TreePath;
import com.sun.source.util.TreePathScanner;
import com.sun.source.util.TreeScanner;
import com.sun.source.util.Trees;
import java.io.IOException;
import java.nio.file.Path;
import java.util.EnumSet;
import java.util.List;
import java.util.Map;
import java.util.Set;
import java.util.TreeMap;
import java.util.TreeSet;
import javax.lang.model.element.Element;
import javax.lang.model.element.ElementKind;
import javax.lang.model.element.Modifier;
import javax.lang.model.element.VariableElement;
import javax.lang.model.type.ArrayType;
import javax.lang.model.type.TypeKind;
import javax.lang.model.type.TypeMirror;
import javax.tools.JavaCompiler;
import javax.tools.StandardJavaFileManager;
import javax.tools.ToolProvider;

// Reads the class's own text, as the compiler sees it, against the rules of LANGUAGE.md. Where a rule leaves more
// than can be seen here (loops other than a for against a constant, divisors that aren't constants, a constructor
// that calls methods), this test asks for the narrower form. That every index is in its array is not seen here: the
// tests that look for calls that throw are for that.
public final class AttackGraphLanguage extends TreePathScanner<Void, Void> {
    private static final String SOURCE = "src/main/java/AttackGraph.java";
    private static final int MOST_PARAMETERS = 7;
    private static final int MOST_LINES = 60;
    private static final int MOST_DEEP = 6;
    private static final int MOST_FIELDS = 40;
    private static final Set<TypeKind> NUMBERS = EnumSet.of(TypeKind.INT, TypeKind.LONG, TypeKind.SHORT, TypeKind.BYTE,
        TypeKind.CHAR, TypeKind.BOOLEAN);

    private final Trees trees;
    private final CompilationUnitTree unit;
    private final Set<String> publicNames = new TreeSet<>();
    private final Set<String> privateNames = new TreeSet<>();
    private final Map<String, Set<String>> calls = new TreeMap<>();
    private String method = "";
    private int fields = 0;
    private int methods = 0;
    private int wrong = 0;

    private AttackGraphLanguage(Trees trees, CompilationUnitTree unit) {
        this.trees = trees;
        this.unit = unit;
    }

    private void fault(int rule, Tree where, String what) {
        wrong++;
        System.out.println("rule " + rule + ", line " + lineAt(startOf(where)) + ": " + what);
    }

    private long startOf(Tree tree) {
        return trees.getSourcePositions().getStartPosition(unit, tree);
    }

    private long lineAt(long position) {
        return position < 0 ? 0 : unit.getLineMap().getLineNumber(position);
    }

    private Element elementOf(Tree tree) {
        return trees.getElement(TreePath.getPath(unit, tree));
    }

    private TypeMirror typeOf(Tree tree) {
        return trees.getTypeMirror(TreePath.getPath(unit, tree));
    }

    private boolean isArray(Tree tree) {
        TypeMirror type = typeOf(tree);
        return type != null && type.getKind() == TypeKind.ARRAY;
    }

    private static boolean isAllowed(TypeMirror type) {
        if (type == null) {
            return false;
        }
        TypeKind kind = type.getKind() == TypeKind.ARRAY ? ((ArrayType) type).getComponentType().getKind()
            : type.getKind();
        return NUMBERS.contains(kind);
    }

    private static ExpressionTree bare(ExpressionTree tree) {
        ExpressionTree inner = tree;
        while (inner instanceof ParenthesizedTree p) {
            inner = p.getExpression();
        }
        return inner;
    }

    // The value of a literal or of a constant's name, null for all else.
    private Long constant(ExpressionTree tree) {
        ExpressionTree inner = bare(tree);
        Object value = null;
        if (inner instanceof LiteralTree literal) {
            value = literal.getValue();
        } else if (inner instanceof IdentifierTree && elementOf(inner) instanceof VariableElement v) {
            value = v.getConstantValue();
        }
        return value instanceof Integer || value instanceof Long ? Long.valueOf(((Number) value).longValue()) : null;
    }

    private boolean inConstructor() {
        return method.equals("<init>");
    }

    private boolean inLoop() {
        for (Tree t : getCurrentPath()) {
            if (t instanceof ForLoopTree || t instanceof WhileLoopTree || t instanceof DoWhileLoopTree
                || t instanceof EnhancedForLoopTree) {
                return true;
            }
        }
        return false;
    }

    // ---- Rule 1, and what of the rules 4, 5, 6 and 10 is said of a member as a whole

    @Override
    public Void visitCompilationUnit(CompilationUnitTree node, Void none) {
        if (node.getPackageName() != null) {
            fault(1, node, "a package line");
        }
        if (!node.getImports().isEmpty()) {
            fault(3, node, "an import");
        }
        if (node.getTypeDecls().size() != 1) {
            fault(1, node, "not one class alone");
        }
        return super.visitCompilationUnit(node, none);
    }

    @Override
    public Void visitClass(ClassTree node, Void none) {
        boolean nested = !(getCurrentPath().getParentPath().getLeaf() instanceof CompilationUnitTree);
        if (nested || node.getKind() != Tree.Kind.CLASS) {
            fault(1, node, "a nested class, interface, enum or record");
        }
        if (!nested && !node.getModifiers().getFlags().equals(EnumSet.of(Modifier.PUBLIC, Modifier.FINAL))) {
            fault(1, node, "the class is not public and final");
        }
        if (node.getExtendsClause() != null || !node.getImplementsClause().isEmpty()
            || !node.getTypeParameters().isEmpty()) {
            fault(2, node, "the class names another type");
        }
        return super.visitClass(node, none);
    }

    @Override
    public Void visitMethod(MethodTree node, Void none) {
        method = node.getName().toString();
        methods++;
        calls.computeIfAbsent(method, m -> new TreeSet<>());
        Set<Modifier> flags = node.getModifiers().getFlags();
        if (flags.contains(Modifier.PUBLIC)) {
            publicNames.add(method);
        } else if (flags.contains(Modifier.PRIVATE)) {
            privateNames.add(method);
        } else {
            fault(1, node, method + " is neither public nor private");
        }
        if (node.getReturnType() != null && isArray(node.getReturnType())) {
            fault(4, node, method + " answers an array");
        }
        if (flags.contains(Modifier.SYNCHRONIZED) || !node.getThrows().isEmpty()) {
            fault(6, node, method + " is synchronized or says that it throws");
        }
        if (node.getParameters().size() > MOST_PARAMETERS) {
            fault(10, node, method + " takes too many parameters");
        }
        long last = lineAt(trees.getSourcePositions().getEndPosition(unit, node));
        if (last - lineAt(startOf(node)) + 1 > MOST_LINES) {
            fault(10, node, method + " is long");
        }
        super.visitMethod(node, none);
        method = "";
        return null;
    }

    @Override
    public Void visitVariable(VariableTree node, Void none) {
        if (!isAllowed(typeOf(node))) {
            fault(2, node, "the type of " + node.getName());
        }
        if (elementOf(node).getKind() == ElementKind.FIELD) {
            lookAtField(node);
        }
        return super.visitVariable(node, none);
    }

    private void lookAtField(VariableTree node) {
        Set<Modifier> flags = node.getModifiers().getFlags();
        if (!flags.contains(Modifier.STATIC)) {
            fields++;
            if (!flags.contains(Modifier.PRIVATE)) {
                fault(1, node, "the field " + node.getName() + " is not private");
            }
            return;
        }
        TypeKind kind = typeOf(node).getKind();
        boolean number = kind == TypeKind.INT || kind == TypeKind.LONG;
        if (!number || ((VariableElement) elementOf(node)).getConstantValue() == null) {
            fault(5, node, "the static field " + node.getName() + " is no constant of int or long");
        }
        if (!flags.contains(Modifier.PRIVATE) && !flags.contains(Modifier.PUBLIC)) {
            fault(1, node, "the constant " + node.getName() + " is neither public nor private");
        }
    }

    @Override
    public Void visitBlock(BlockTree node, Void none) {
        if (getCurrentPath().getParentPath().getLeaf() instanceof ClassTree) {
            fault(5, node, "an initialiser block");
        }
        return super.visitBlock(node, none);
    }

    // ---- Rules 2, 3 and 11: no type and no call from outside the class

    @Override
    public Void scan(Tree tree, Void none) {
        if (tree instanceof LiteralTree literal && !(literal.getValue() instanceof Integer
            || literal.getValue() instanceof Long || literal.getValue() instanceof Character
            || literal.getValue() instanceof Boolean)) {
            fault(2, tree, "the literal " + literal);
        }
        return super.scan(tree, none);
    }

    @Override
    public Void visitAnnotation(AnnotationTree node, Void none) {
        fault(3, node, "an annotation");
        return super.visitAnnotation(node, none);
    }

    @Override
    public Void visitIdentifier(IdentifierTree node, Void none) {
        Element element = elementOf(node);
        if (element != null && (element.getKind().isClass() || element.getKind().isInterface())) {
            fault(3, node, "the class " + node.getName());
        }
        return super.visitIdentifier(node, none);
    }

    @Override
    public Void visitMemberSelect(MemberSelectTree node, Void none) {
        boolean ofThis = node.getExpression().toString().equals("this");
        boolean length = isArray(node.getExpression()) && node.getIdentifier().contentEquals("length");
        if (!ofThis && !length) {
            fault(3, node, "a member of something else: " + node);
        }
        return super.visitMemberSelect(node, none);
    }

    // ---- Rules 3, 8 and 10: calls

    @Override
    public Void visitMethodInvocation(MethodInvocationTree node, Void none) {
        String called = node.getMethodSelect().toString();
        called = called.startsWith("this.") ? called.substring("this.".length()) : called;
        // The compiler itself puts this call into every constructor.
        if (called.equals("super") && inConstructor()) {
            return null;
        }
        Element owner = elementOf(node.getMethodSelect()).getEnclosingElement();
        if (!owner.getSimpleName().contentEquals("AttackGraph")) {
            fault(3, node, "a call of " + called + " of another class");
        }
        if (inConstructor()) {
            fault(4, node, "the constructor calls " + called);
        }
        calls.computeIfAbsent(method, m -> new TreeSet<>()).add(called);
        for (TreePath up = getCurrentPath().getParentPath(); up != null; up = up.getParentPath()) {
            if (up.getLeaf() instanceof MethodInvocationTree) {
                fault(10, node, "the call of " + called + " stands inside the arguments of another call");
            }
        }
        return super.visitMethodInvocation(node, none);
    }

    // How deep the calls go from a method on; the trail holds the methods that lead to it.
    private int depth(String from, Set<String> trail) {
        if (!trail.add(from)) {
            wrong++;
            System.out.println("rule 8: " + from + " calls itself, by " + trail);
            return 0;
        }
        int deepest = 0;
        for (String called : calls.getOrDefault(from, Set.of())) {
            deepest = Math.max(deepest, depth(called, trail));
        }
        trail.remove(from);
        return deepest + 1;
    }

    // ---- Rule 4: arrays and objects

    @Override
    public Void visitNewClass(NewClassTree node, Void none) {
        fault(4, node, "an object is made");
        return super.visitNewClass(node, none);
    }

    @Override
    public Void visitNewArray(NewArrayTree node, Void none) {
        if (!isMadeAtTheStart()) {
            fault(4, node, "an array is made elsewhere than in a field's initialiser or in the constructor's own lines");
        }
        List<? extends ExpressionTree> lengths = node.getDimensions();
        Long length = lengths.size() == 1 ? constant(lengths.get(0)) : null;
        if (length == null || length < 1 || node.getInitializers() != null) {
            fault(4, node, "an array's length is not one constant of 1 or more");
        }
        return super.visitNewArray(node, none);
    }

    private boolean isMadeAtTheStart() {
        TreePath holder = getCurrentPath().getParentPath();
        if (holder.getLeaf() instanceof VariableTree) {
            return holder.getParentPath().getLeaf() instanceof ClassTree;
        }
        TreePath statement = holder.getParentPath();
        return inConstructor() && holder.getLeaf() instanceof AssignmentTree
            && statement.getLeaf() instanceof ExpressionStatementTree
            && statement.getParentPath().getParentPath().getLeaf() instanceof MethodTree;
    }

    @Override
    public Void visitAssignment(AssignmentTree node, Void none) {
        if (isArray(node.getVariable())) {
            boolean field = elementOf(node.getVariable()).getKind() == ElementKind.FIELD;
            if (field && !inConstructor()) {
                fault(4, node, "a method assigns to an array field");
            }
            if (inLoop()) {
                fault(4, node, "a name changes to another array inside a loop");
            }
        }
        return super.visitAssignment(node, none);
    }

    @Override
    public Void visitBinary(BinaryTree node, Void none) {
        if (isArray(node.getLeftOperand()) || isArray(node.getRightOperand())) {
            fault(4, node, "an array is compared");
        }
        if (node.getKind() == Tree.Kind.DIVIDE || node.getKind() == Tree.Kind.REMAINDER) {
            lookAtDivisor(node.getRightOperand());
        }
        return super.visitBinary(node, none);
    }

    // ---- Rules 6 and 7

    private void lookAtDivisor(ExpressionTree divisor) {
        Long value = constant(divisor);
        if (value == null || value == 0) {
            fault(7, divisor, "a divisor that is not seen to differ from 0");
        }
    }

    @Override
    public Void visitCompoundAssignment(CompoundAssignmentTree node, Void none) {
        if (node.getKind() == Tree.Kind.DIVIDE_ASSIGNMENT || node.getKind() == Tree.Kind.REMAINDER_ASSIGNMENT) {
            lookAtDivisor(node.getExpression());
        }
        return super.visitCompoundAssignment(node, none);
    }

    @Override
    public Void visitTypeCast(TypeCastTree node, Void none) {
        if (!typeOf(node.getType()).getKind().isPrimitive()) {
            fault(6, node, "a cast of a reference");
        }
        if (!isAllowed(typeOf(node.getType()))) {
            fault(2, node, "a cast to a type that is left out");
        }
        return super.visitTypeCast(node, none);
    }

    @Override
    public Void visitThrow(ThrowTree node, Void none) {
        fault(6, node, "throw");
        return super.visitThrow(node, none);
    }

    @Override
    public Void visitTry(TryTree node, Void none) {
        fault(6, node, "try");
        return super.visitTry(node, none);
    }

    @Override
    public Void visitSynchronized(SynchronizedTree node, Void none) {
        fault(6, node, "synchronized");
        return super.visitSynchronized(node, none);
    }

    @Override
    public Void visitAssert(AssertTree node, Void none) {
        fault(6, node, "assert");
        return super.visitAssert(node, none);
    }

    @Override
    public Void visitInstanceOf(InstanceOfTree node, Void none) {
        fault(6, node, "instanceof");
        return super.visitInstanceOf(node, none);
    }

    @Override
    public Void visitLambdaExpression(LambdaExpressionTree node, Void none) {
        fault(6, node, "a lambda");
        return super.visitLambdaExpression(node, none);
    }

    @Override
    public Void visitMemberReference(MemberReferenceTree node, Void none) {
        fault(6, node, "a method reference");
        return super.visitMemberReference(node, none);
    }

    // ---- Rule 8: loops

    @Override
    public Void visitWhileLoop(WhileLoopTree node, Void none) {
        fault(8, node, "a while loop, whose end this test can't see");
        return super.visitWhileLoop(node, none);
    }

    @Override
    public Void visitDoWhileLoop(DoWhileLoopTree node, Void none) {
        fault(8, node, "a do loop, whose end this test can't see");
        return super.visitDoWhileLoop(node, none);
    }

    @Override
    public Void visitForLoop(ForLoopTree node, Void none) {
        List<? extends StatementTree> starts = node.getInitializer();
        if (starts.size() != 1 || !(starts.get(0) instanceof VariableTree counter) || node.getCondition() == null) {
            fault(8, node, "a for loop without a counter of its own");
            return super.visitForLoop(node, none);
        }
        String name = counter.getName().toString();
        if (!hasConstantBound(node.getCondition(), name)) {
            fault(8, node, "the counter " + name + " is not held against a constant");
        }
        boolean counts = node.getUpdate().size() == 1
            && node.getUpdate().get(0).getExpression().toString().equals(name + "++");
        if (!counts || isChanged(name, node.getStatement())) {
            fault(8, node, "the counter " + name + " does not just count up");
        }
        return super.visitForLoop(node, none);
    }

    private boolean hasConstantBound(ExpressionTree condition, String counter) {
        if (!(bare(condition) instanceof BinaryTree b)) {
            return false;
        }
        if (b.getKind() == Tree.Kind.CONDITIONAL_AND) {
            return hasConstantBound(b.getLeftOperand(), counter) || hasConstantBound(b.getRightOperand(), counter);
        }
        boolean below = b.getKind() == Tree.Kind.LESS_THAN || b.getKind() == Tree.Kind.LESS_THAN_EQUAL;
        Long bound = constant(b.getRightOperand());
        return below && b.getLeftOperand().toString().equals(counter) && bound != null && bound < Integer.MAX_VALUE;
    }

    private static boolean isChanged(String name, Tree body) {
        boolean[] changed = {false};
        new TreeScanner<Void, Void>() {
            private void change(ExpressionTree variable) {
                changed[0] |= bare(variable).toString().equals(name);
            }

            @Override
            public Void visitAssignment(AssignmentTree node, Void none) {
                change(node.getVariable());
                return super.visitAssignment(node, none);
            }

            @Override
            public Void visitCompoundAssignment(CompoundAssignmentTree node, Void none) {
                change(node.getVariable());
                return super.visitCompoundAssignment(node, none);
            }

            @Override
            public Void visitUnary(UnaryTree node, Void none) {
                Set<Tree.Kind> steps = EnumSet.of(Tree.Kind.PREFIX_INCREMENT, Tree.Kind.PREFIX_DECREMENT,
                    Tree.Kind.POSTFIX_INCREMENT, Tree.Kind.POSTFIX_DECREMENT);
                if (steps.contains(node.getKind())) {
                    change(node.getExpression());
                }
                return super.visitUnary(node, none);
            }
        }.scan(body, null);
        return changed[0];
    }

    // ---- What only the whole class shows

    private void lookAtTheWhole() {
        for (String name : privateNames) {
            if (publicNames.contains(name)) {
                wrong++;
                System.out.println("rule 1: a private method bears the public name " + name);
            }
        }
        for (String name : calls.keySet()) {
            int depth = depth(name, new TreeSet<>());
            if (depth > MOST_DEEP) {
                wrong++;
                System.out.println("rule 10: from " + name + " the calls go " + depth + " deep");
            }
        }
        if (fields > MOST_FIELDS) {
            wrong++;
            System.out.println("rule 10: the class has " + fields + " fields");
        }
    }

    private static AttackGraphLanguage read(Path source) throws IOException {
        JavaCompiler compiler = ToolProvider.getSystemJavaCompiler();
        try (StandardJavaFileManager files = compiler.getStandardFileManager(null, null, null)) {
            JavacTask task = (JavacTask) compiler.getTask(null, files, null, List.of("--release", "17"), null,
                files.getJavaFileObjects(source));
            CompilationUnitTree unit = task.parse().iterator().next();
            task.analyze();
            AttackGraphLanguage reader = new AttackGraphLanguage(Trees.instance(task), unit);
            reader.scan(new TreePath(unit), null);
            reader.lookAtTheWhole();
            return reader;
        }
    }

    public static void main(String[] args) throws IOException {
        AttackGraphLanguage reader = read(Path.of(args.length == 0 ? SOURCE : args[0]));
        System.out.println(reader.methods + " methods and " + reader.fields + " fields read, " + reader.wrong
            + " faults");
        if (reader.wrong != 0 || reader.methods == 0) {
            System.exit(1);
        }
    }
}
