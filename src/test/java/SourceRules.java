import com.sun.source.tree.*;
import com.sun.source.util.TreePath;
import com.sun.source.util.TreePathScanner;
import com.sun.source.util.Trees;
import java.util.EnumSet;
import java.util.Set;
import javax.lang.model.element.Element;
import javax.lang.model.element.ElementKind;
import javax.lang.model.element.Modifier;
import javax.lang.model.type.TypeKind;
import javax.lang.model.type.TypeMirror;

/** Goes through the source as the compiler reads it, and looks at each part by the rules of LANGUAGE.md. */
final class SourceRules extends TreePathScanner<Void, Void> {
    /** What is not here is not used, whether a rule forbids it or not. */
    private static final Set<Tree.Kind> PARTS = EnumSet.of(Tree.Kind.COMPILATION_UNIT, Tree.Kind.IMPORT,
        Tree.Kind.CLASS, Tree.Kind.MODIFIERS, Tree.Kind.METHOD, Tree.Kind.VARIABLE, Tree.Kind.BLOCK,
        Tree.Kind.PRIMITIVE_TYPE, Tree.Kind.ARRAY_TYPE, Tree.Kind.IDENTIFIER, Tree.Kind.MEMBER_SELECT,
        Tree.Kind.IF, Tree.Kind.FOR_LOOP, Tree.Kind.WHILE_LOOP, Tree.Kind.SWITCH, Tree.Kind.CASE, Tree.Kind.BREAK,
        Tree.Kind.RETURN, Tree.Kind.EXPRESSION_STATEMENT, Tree.Kind.METHOD_INVOCATION, Tree.Kind.NEW_CLASS,
        Tree.Kind.NEW_ARRAY, Tree.Kind.ARRAY_ACCESS, Tree.Kind.ASSIGNMENT, Tree.Kind.PLUS_ASSIGNMENT,
        Tree.Kind.MINUS_ASSIGNMENT, Tree.Kind.POSTFIX_INCREMENT, Tree.Kind.POSTFIX_DECREMENT,
        Tree.Kind.CONDITIONAL_EXPRESSION, Tree.Kind.CONDITIONAL_AND, Tree.Kind.CONDITIONAL_OR,
        Tree.Kind.LOGICAL_COMPLEMENT, Tree.Kind.PARENTHESIZED, Tree.Kind.TYPE_CAST, Tree.Kind.PLUS, Tree.Kind.MINUS,
        Tree.Kind.MULTIPLY, Tree.Kind.DIVIDE, Tree.Kind.REMAINDER, Tree.Kind.UNSIGNED_RIGHT_SHIFT,
        Tree.Kind.UNARY_MINUS, Tree.Kind.EQUAL_TO, Tree.Kind.NOT_EQUAL_TO, Tree.Kind.LESS_THAN,
        Tree.Kind.LESS_THAN_EQUAL, Tree.Kind.GREATER_THAN, Tree.Kind.GREATER_THAN_EQUAL, Tree.Kind.INT_LITERAL,
        Tree.Kind.BOOLEAN_LITERAL, Tree.Kind.CHAR_LITERAL, Tree.Kind.STRING_LITERAL, Tree.Kind.NULL_LITERAL);

    private static final Set<String> LIBRARY = Set.of("java.lang.String.length()", "java.lang.String.charAt(int)",
        "java.lang.String.indexOf(int)", "java.lang.Math.max(int,int)", "java.lang.Math.min(int,int)",
        "java.lang.Math.abs(int)", "java.util.Arrays.fill(int[],int)",
        "java.lang.System.arraycopy(java.lang.Object,int,java.lang.Object,int,int)", "java.lang.Object.Object()");

    private static final Set<String> TYPES = Set.of("int", "boolean", "char", "byte", "int[]", "byte[]",
        "java.lang.String");

    private final Trees trees;
    private final CompilationUnitTree unit;
    private final Due due;
    private final CallGraph calls = new CallGraph();
    private int methods = 0;

    SourceRules(Trees trees, CompilationUnitTree unit, Due due) {
        this.trees = trees;
        this.unit = unit;
        this.due = due;
    }

    CallGraph calls() {
        return calls;
    }

    int methods() {
        return methods;
    }

    private void rule(int number, Tree at, String what, boolean kept) {
        long place = trees.getSourcePositions().getStartPosition(unit, at);
        String line = place < 0 ? "" : " in line " + unit.getLineMap().getLineNumber(place);
        due.is(number + ": " + what + line, kept ? 1 : 0, 1);
    }

    private TypeMirror typeOf(Tree tree) {
        return trees.getTypeMirror(new TreePath(getCurrentPath(), tree));
    }

    private static boolean isOwn(String type) {
        return type.startsWith("HumWire.") && !type.contains("[][]");
    }

    private boolean isString(Tree tree) {
        return typeOf(tree).toString().equals("java.lang.String");
    }

    /** The method or the constructor that stands around, or null in a field. */
    private MethodTree around() {
        for (TreePath path = getCurrentPath(); path != null; path = path.getParentPath()) {
            if (path.getLeaf() instanceof MethodTree method) {
                return method;
            }
        }
        return null;
    }

    private static String nameOf(Element method) {
        return method.getEnclosingElement() + "." + method;
    }

    @Override
    public Void scan(Tree tree, Void none) {
        if (tree != null) {
            rule(6, tree, "there may be a " + tree.getKind(), PARTS.contains(tree.getKind()));
        }
        return super.scan(tree, none);
    }

    @Override
    public Void visitImport(ImportTree tree, Void none) {
        rule(4, tree, tree.toString(), tree.getQualifiedIdentifier().toString().equals("java.util.Arrays"));
        return super.visitImport(tree, none);
    }

    @Override
    public Void visitModifiers(ModifiersTree tree, Void none) {
        Set<Modifier> may = EnumSet.of(Modifier.PUBLIC, Modifier.PRIVATE, Modifier.STATIC, Modifier.FINAL);
        rule(6, tree, tree.toString(), may.containsAll(tree.getFlags()) && tree.getAnnotations().isEmpty());
        return super.visitModifiers(tree, none);
    }

    @Override
    public Void visitClass(ClassTree tree, Void none) {
        rule(2, tree, tree.getSimpleName() + " stands in no method", around() == null);
        rule(2, tree, tree.getSimpleName() + " is under none", tree.getExtendsClause() == null);
        for (Tree member : tree.getMembers()) {
            rule(5, member, "no block by itself", member.getKind() != Tree.Kind.BLOCK);
        }
        return super.visitClass(tree, none);
    }

    @Override
    public Void visitMethod(MethodTree tree, Void none) {
        long from = trees.getSourcePositions().getStartPosition(unit, tree);
        long to = trees.getSourcePositions().getEndPosition(unit, tree);
        long lines = unit.getLineMap().getLineNumber(to) - unit.getLineMap().getLineNumber(from) + 1;
        rule(11, tree, tree.getName() + " has " + lines + " lines", lines <= 60);
        rule(6, tree, tree.getName() + " throws nothing", tree.getThrows().isEmpty());
        rule(3, tree, tree.getName() + " is of no sort of its own", tree.getTypeParameters().isEmpty());
        calls.knows(nameOf(trees.getElement(getCurrentPath())), tree.getParameters().toString());
        methods++;
        return super.visitMethod(tree, none);
    }

    @Override
    public Void visitVariable(VariableTree tree, Void none) {
        String type = trees.getTypeMirror(getCurrentPath()).toString();
        rule(3, tree, type + " " + tree.getName(), TYPES.contains(type) || isOwn(type));
        boolean isStatic = tree.getModifiers().getFlags().contains(Modifier.STATIC);
        if (isStatic && type.endsWith("[]")) {
            rule(5, tree, tree.getName() + " is written out",
                tree.getInitializer() instanceof NewArrayTree row && row.getInitializers() != null);
        }
        return super.visitVariable(tree, none);
    }

    @Override
    public Void visitMethodInvocation(MethodInvocationTree tree, Void none) {
        Element called = trees.getElement(getCurrentPath());
        String name = nameOf(called);
        String type = called.getEnclosingElement().toString();
        boolean own = type.equals("HumWire") || isOwn(type);
        boolean begins = called.getKind() == ElementKind.CONSTRUCTOR && around().getReturnType() == null;
        rule(4, tree, "the library's " + name, own || begins || LIBRARY.contains(type + "." + called));
        if (own) {
            MethodTree around = around();
            rule(12, tree, "a field is not begun by a call", around != null);
            calls.calls(nameOf(trees.getElement(trees.getPath(unit, around))), name);
        }
        if (called.getSimpleName().contentEquals("indexOf")) {
            rule(4, tree, "indexOf of a char", typeOf(tree.getArguments().get(0)).getKind() == TypeKind.CHAR);
        }
        return super.visitMethodInvocation(tree, none);
    }

    @Override
    public Void visitNewClass(NewClassTree tree, Void none) {
        rule(2, tree, "no class without a name", tree.getClassBody() == null);
        rule(3, tree, "made " + tree.getIdentifier(), isOwn(typeOf(tree.getIdentifier()).toString()));
        rule(12, tree, "it is made with the object", around() == null || around().getReturnType() == null);
        return super.visitNewClass(tree, none);
    }

    @Override
    public Void visitNewArray(NewArrayTree tree, Void none) {
        rule(12, tree, "a row is made with the object", around() == null || around().getReturnType() == null);
        rule(3, tree, "rows have one dimension", tree.getDimensions().size() <= 1);
        return super.visitNewArray(tree, none);
    }

    /** An array that is the same for all objects is only read. */
    private void notShared(Tree changed) {
        if (changed instanceof ArrayAccessTree place) {
            Element row = trees.getElement(new TreePath(new TreePath(getCurrentPath(), changed), place.getExpression()));
            rule(5, changed, changed + " is not shared", row == null || !row.getModifiers().contains(Modifier.STATIC));
        }
    }

    @Override
    public Void visitAssignment(AssignmentTree tree, Void none) {
        notShared(tree.getVariable());
        return super.visitAssignment(tree, none);
    }

    @Override
    public Void visitCompoundAssignment(CompoundAssignmentTree tree, Void none) {
        notShared(tree.getVariable());
        rule(10, tree, "no text is joined", !isString(tree.getVariable()));
        return super.visitCompoundAssignment(tree, none);
    }

    @Override
    public Void visitUnary(UnaryTree tree, Void none) {
        notShared(tree.getExpression());
        return super.visitUnary(tree, none);
    }

    @Override
    public Void visitBinary(BinaryTree tree, Void none) {
        if (tree.getKind() == Tree.Kind.EQUAL_TO || tree.getKind() == Tree.Kind.NOT_EQUAL_TO) {
            rule(6, tree, tree + " compares no texts", !isString(tree.getLeftOperand())
                && !isString(tree.getRightOperand()));
        }
        rule(10, tree, "no text is joined", tree.getKind() != Tree.Kind.PLUS
            || !isString(tree.getLeftOperand()) && !isString(tree.getRightOperand()));
        return super.visitBinary(tree, none);
    }

    @Override
    public Void visitTypeCast(TypeCastTree tree, Void none) {
        rule(6, tree, tree + " is of numbers", typeOf(tree.getType()).getKind().isPrimitive());
        return super.visitTypeCast(tree, none);
    }

    @Override
    public Void visitSwitch(SwitchTree tree, Void none) {
        rule(10, tree, "a switch on a number", typeOf(tree.getExpression()).getKind() == TypeKind.INT);
        return super.visitSwitch(tree, none);
    }

    /** A loop goes on while something is below or above something, whatever else must hold. */
    private static boolean counts(ExpressionTree condition) {
        if (condition instanceof ParenthesizedTree inner) {
            return counts(inner.getExpression());
        }
        if (!(condition instanceof BinaryTree two)) {
            return false;
        }
        switch (two.getKind()) {
            case LESS_THAN: case LESS_THAN_EQUAL: case GREATER_THAN: case GREATER_THAN_EQUAL: return true;
            case CONDITIONAL_AND: return counts(two.getLeftOperand()) || counts(two.getRightOperand());
            default: return false;
        }
    }

    @Override
    public Void visitForLoop(ForLoopTree tree, Void none) {
        rule(9, tree, "a loop's end", counts(tree.getCondition()) && tree.getUpdate().size() == 1);
        return super.visitForLoop(tree, none);
    }

    @Override
    public Void visitWhileLoop(WhileLoopTree tree, Void none) {
        rule(9, tree, "a loop's end", counts(tree.getCondition()));
        return super.visitWhileLoop(tree, none);
    }
}
