import com.sun.source.tree.*;
import com.sun.source.util.TreePath;
import com.sun.source.util.TreePathScanner;
import com.sun.source.util.Trees;
import java.util.ArrayList;
import java.util.List;
import java.util.Set;
import java.util.TreeSet;
import javax.lang.model.element.Element;
import javax.lang.model.element.ElementKind;
import javax.lang.model.element.ExecutableElement;
import javax.lang.model.element.Modifier;
import javax.lang.model.element.TypeElement;
import javax.lang.model.type.ArrayType;
import javax.lang.model.type.DeclaredType;
import javax.lang.model.type.TypeKind;
import javax.lang.model.type.TypeMirror;

/** Goes through a source as the compiler reads it, and notes what is outside ../shared/LANGUAGE.md: "4: ..." breaks rule 4. */
final class LanguageRules extends TreePathScanner<Void, Void> {
    private static final int MOST_CLASSES = 12, MOST_FIELDS = 20, MOST_PARAMETERS = 7, MOST_LINES = 60, MOST_DEEP = 8;

    private static final Set<String> IMPORTS = Set.of("java.util.ArrayList", "java.util.List", "java.util.Arrays",
            "java.util.Iterator");
    private static final Set<String> LIBRARY_TYPES = Set.of("java.lang.String", "java.lang.StringBuilder",
            "java.lang.Integer", "java.util.ArrayList", "java.util.List", "java.util.Iterator", "java.lang.Iterable",
            "java.lang.Comparable");
    private static final Set<String> STATICS_OVER_NUMBERS = Set.of("java.lang.Integer", "java.lang.Long", "java.lang.Math");
    private static final Set<String> CALLS_OF_OTHERS = Set.of("System.arraycopy", "Arrays.copyOf", "Arrays.copyOfRange",
            "Arrays.fill", "String.length", "String.charAt", "String.isEmpty", "String.equals", "String.indexOf",
            "String.substring", "String.toCharArray", "StringBuilder.append", "StringBuilder.charAt",
            "StringBuilder.setCharAt", "StringBuilder.setLength", "StringBuilder.deleteCharAt", "StringBuilder.reverse",
            "StringBuilder.length", "StringBuilder.toString", "ArrayList.add", "ArrayList.get", "ArrayList.set",
            "ArrayList.remove", "ArrayList.size", "ArrayList.isEmpty", "ArrayList.clear", "List.of", "Array.clone");
    private static final Set<String> OBJECTS_OWN = Set.of("equals", "hashCode", "toString");

    private final Trees trees;
    private final CompilationUnitTree unit;
    private final List<String> faults = new ArrayList<>();
    private final CallGraph calls = new CallGraph();
    private final Set<String> publicNames = new TreeSet<>();
    private TypeElement face;
    private int classes;
    private int looked;

    LanguageRules(Trees trees, CompilationUnitTree unit) {
        this.trees = trees;
        this.unit = unit;
    }

    void all() {
        if (unit.getPackage() != null) faults.add("1: there is a package line");
        if (unit.getTypeDecls().size() != 1) faults.add("1: there are more classes than one in the file");
        scan(unit, null);
        if (classes > MOST_CLASSES) faults.add("11: there are " + classes + " classes");
        calls.told(faults, MOST_DEEP);
    }

    List<String> faults() {
        return faults;
    }

    /** How much was gone through. */
    int looked() {
        return looked;
    }

    private void that(boolean holds, int rule, String otherwise) {
        looked++;
        if (holds) return;
        long at = trees.getSourcePositions().getStartPosition(unit, getCurrentPath().getLeaf());
        faults.add(rule + ": " + otherwise + ", in line " + unit.getLineMap().getLineNumber(at));
    }

    private Element element() {
        return trees.getElement(getCurrentPath());
    }

    private Element elementOf(Tree tree) {
        return trees.getElement(new TreePath(getCurrentPath(), tree));
    }

    private TypeMirror typeOf(Tree tree) {
        return trees.getTypeMirror(new TreePath(getCurrentPath(), tree));
    }

    private boolean isOwn(Element e) {
        for (Element one = e; one != null; one = one.getEnclosingElement()) if (one.equals(face)) return true;
        return false;
    }

    private static boolean isNamed(TypeMirror type, String name) {
        return type != null && type.toString().equals(name);
    }

    // ---- 1, 2, 5, 11: classes, their methods and fields

    @Override
    public Void visitClass(ClassTree tree, Void v) {
        TypeElement one = (TypeElement) element();
        classes++;
        if (face == null) {
            face = one;
            for (Element e : face.getEnclosedElements()) {
                boolean isCall = e.getKind() == ElementKind.METHOD && e.getModifiers().contains(Modifier.PUBLIC);
                if (isCall) publicNames.add(e.getSimpleName().toString());
            }
        } else {
            Set<Modifier> modifiers = one.getModifiers();
            boolean isMember = getCurrentPath().getParentPath().getLeaf() instanceof ClassTree;
            that(isMember, 2, "a class inside a method");
            that(modifiers.contains(Modifier.STATIC) || one.getKind() != ElementKind.CLASS, 2, "a class that isn't static");
            that(!modifiers.contains(Modifier.PUBLIC) && !modifiers.contains(Modifier.PROTECTED), 1, "a class that is seen");
        }
        int fields = 0;
        for (Element e : one.getEnclosedElements()) {
            if (e.getKind() == ElementKind.FIELD && !e.getModifiers().contains(Modifier.STATIC)) fields++;
        }
        that(fields <= MOST_FIELDS, 11, one + " has " + fields + " fields");
        return super.visitClass(tree, v);
    }

    /** What neither the document names nor anybody but the class may see. */
    private void seen(Element e) {
        if (e.getEnclosingElement() != face) return;
        boolean isSeen = !e.getModifiers().contains(Modifier.PRIVATE) && !e.getModifiers().contains(Modifier.PUBLIC);
        that(!isSeen, 1, e + " is seen by others");
    }

    @Override
    public Void visitMethod(MethodTree tree, Void v) {
        ExecutableElement e = (ExecutableElement) element();
        String name = e.getSimpleName().toString();
        seen(e);
        that(e.getModifiers().contains(Modifier.PUBLIC) || !publicNames.contains(name), 1, name + " is a public one's name");
        that(!OBJECTS_OWN.contains(name), 6, "an own " + name);
        that(e.getParameters().size() <= MOST_PARAMETERS, 11, e + " takes many numbers");
        long from = trees.getSourcePositions().getStartPosition(unit, tree);
        long to = trees.getSourcePositions().getEndPosition(unit, tree);
        long lines = to < 0 ? 0 : unit.getLineMap().getLineNumber(to) - unit.getLineMap().getLineNumber(from) + 1;
        that(lines <= MOST_LINES, 11, e + " is long");
        if (e.getReturnType().getKind() != TypeKind.VOID) allowed(e.getReturnType());
        return super.visitMethod(tree, v);
    }

    @Override
    public Void visitVariable(VariableTree tree, Void v) {
        Element e = element();
        allowed(e.asType());
        if (e.getKind() == ElementKind.FIELD) {
            seen(e);
            if (e.getModifiers().contains(Modifier.STATIC)) constant(tree, e);
        }
        return super.visitVariable(tree, v);
    }

    private void constant(VariableTree tree, Element e) {
        that(e.getModifiers().contains(Modifier.FINAL), 5, e + " is static, not final");
        TypeMirror type = e.asType();
        TypeMirror item = type.getKind() == TypeKind.ARRAY ? ((ArrayType) type).getComponentType() : type;
        boolean isConstant = item.getKind() == TypeKind.INT || item.getKind() == TypeKind.LONG
                || item.getKind() == TypeKind.BOOLEAN || item.getKind() == TypeKind.CHAR || item.getKind() == TypeKind.BYTE
                || isNamed(item, "java.lang.String");
        that(isConstant, 5, e + " is no constant");
        boolean isWritten = item == type || tree.getInitializer() instanceof NewArrayTree a && a.getInitializers() != null;
        that(isWritten, 5, e + " is not written out");
    }

    @Override
    public Void visitBlock(BlockTree tree, Void v) {
        that(!tree.isStatic(), 5, "a static block");
        return super.visitBlock(tree, v);
    }

    // ---- 3: types

    private void allowed(TypeMirror type) {
        boolean is = type.getKind().isPrimitive() || isAllowedRow(type) || isAllowedClass(type);
        that(is, 3, "the type " + type);
    }

    private boolean isAllowedClass(TypeMirror type) {
        if (type.getKind() == TypeKind.TYPEVAR) return true;
        if (type.getKind() != TypeKind.DECLARED) return false;
        TypeElement one = (TypeElement) ((DeclaredType) type).asElement();
        return isOwn(one) || LIBRARY_TYPES.contains(one.getQualifiedName().toString());
    }

    private boolean isAllowedRow(TypeMirror type) {
        if (type.getKind() != TypeKind.ARRAY) return false;
        TypeMirror item = ((ArrayType) type).getComponentType();
        if (item.getKind() == TypeKind.ARRAY) return ((ArrayType) item).getComponentType().getKind().isPrimitive();
        return item.getKind().isPrimitive() || isAllowedClass(item);
    }

    // ---- 4, 12: the library, calls, new objects

    @Override
    public Void visitImport(ImportTree tree, Void v) {
        that(IMPORTS.contains(tree.getQualifiedIdentifier().toString()), 4, "an import of " + tree.getQualifiedIdentifier());
        return null;
    }

    private ExecutableElement caller() {
        for (TreePath path = getCurrentPath(); path != null; path = path.getParentPath()) {
            if (path.getLeaf() instanceof MethodTree) return (ExecutableElement) trees.getElement(path);
            if (path.getLeaf() instanceof ClassTree) return makerOf((TypeElement) trees.getElement(path));
        }
        return null;
    }

    private static ExecutableElement makerOf(TypeElement one) {
        for (Element e : one.getEnclosedElements()) {
            if (e.getKind() == ElementKind.CONSTRUCTOR) return (ExecutableElement) e;
        }
        return null;
    }

    @Override
    public Void visitMethodInvocation(MethodInvocationTree tree, Void v) {
        Element e = elementOf(tree.getMethodSelect());
        boolean isOfClassAbove = e != null && e.getKind() == ElementKind.CONSTRUCTOR && e.toString().equals("Object()");
        if (e != null && isOwn(e)) {
            calls.add(caller(), (ExecutableElement) e);
            inMaker(e);
        } else if (!isOfClassAbove) {
            that(e != null && isInLibrary(e), 4, "the call " + tree.getMethodSelect());
        }
        return super.visitMethodInvocation(tree, v);
    }

    private void inMaker(Element called) {
        ExecutableElement caller = caller();
        if (caller == null || caller.getKind() != ElementKind.CONSTRUCTOR) return;
        Set<Modifier> modifiers = called.getModifiers();
        boolean isSure = modifiers.contains(Modifier.PRIVATE) || modifiers.contains(Modifier.STATIC)
                || modifiers.contains(Modifier.FINAL) || called.getEnclosingElement().getModifiers().contains(Modifier.FINAL);
        that(isSure, 12, "a constructor calls " + called);
    }

    private static boolean isInLibrary(Element e) {
        String of = e.getEnclosingElement().toString();
        String name = e.getSimpleName().toString();
        if (STATICS_OVER_NUMBERS.contains(of)) {
            return e.getModifiers().contains(Modifier.STATIC) && !name.endsWith("Exact") && !name.equals("random");
        }
        return CALLS_OF_OTHERS.contains(of.substring(of.lastIndexOf('.') + 1).replaceFirst("<.*", "") + "." + name);
    }

    @Override
    public Void visitMemberSelect(MemberSelectTree tree, Void v) {
        Element e = element();
        boolean isField = e != null && e.getKind() == ElementKind.FIELD;
        if (isField && !isOwn(e)) {
            boolean isLength = typeOf(tree.getExpression()).getKind() == TypeKind.ARRAY;
            that(isLength || isInNo(), 4, "the constant " + tree);
        }
        return super.visitMemberSelect(tree, v);
    }

    /** The document itself writes NO as Long.MIN_VALUE. */
    private boolean isInNo() {
        return getCurrentPath().getParentPath().getLeaf() instanceof VariableTree one && one.getName().contentEquals("NO");
    }

    @Override
    public Void visitNewClass(NewClassTree tree, Void v) {
        that(tree.getClassBody() == null, 2, "a class without a name");
        Element e = element();
        ExecutableElement caller = caller();
        boolean isMaking = caller != null && caller.getKind() == ElementKind.CONSTRUCTOR;
        that(isMaking, 12, "a call makes an object: " + tree);
        if (e != null && isOwn(e)) calls.add(caller, (ExecutableElement) e);
        else that(e != null && LIBRARY_TYPES.contains(e.getEnclosingElement().toString()), 4, "a new object: " + tree);
        return super.visitNewClass(tree, v);
    }

    @Override
    public Void visitNewArray(NewArrayTree tree, Void v) {
        ExecutableElement caller = caller();
        that(caller != null && caller.getKind() == ElementKind.CONSTRUCTOR, 12, "a call makes an array: " + tree);
        return super.visitNewArray(tree, v);
    }

    // ---- 2, 6, 10: what must not stand

    @Override
    public Void visitLambdaExpression(LambdaExpressionTree tree, Void v) {
        that(false, 2, "a lambda");
        return super.visitLambdaExpression(tree, v);
    }

    @Override
    public Void visitMemberReference(MemberReferenceTree tree, Void v) {
        that(false, 2, "a method reference");
        return super.visitMemberReference(tree, v);
    }

    @Override
    public Void visitThrow(ThrowTree tree, Void v) {
        that(false, 6, "throw");
        return super.visitThrow(tree, v);
    }

    @Override
    public Void visitTry(TryTree tree, Void v) {
        that(false, 6, "try");
        return super.visitTry(tree, v);
    }

    @Override
    public Void visitSynchronized(SynchronizedTree tree, Void v) {
        that(false, 6, "synchronized");
        return super.visitSynchronized(tree, v);
    }

    @Override
    public Void visitAssert(AssertTree tree, Void v) {
        that(false, 6, "assert");
        return super.visitAssert(tree, v);
    }

    @Override
    public Void visitTypeCast(TypeCastTree tree, Void v) {
        // None is needed among objects; if there were one, it would have to be seen that a test stands ahead of it.
        that(typeOf(tree.getType()).getKind().isPrimitive(), 6, "a cast of an object");
        return super.visitTypeCast(tree, v);
    }

    @Override
    public Void visitBinary(BinaryTree tree, Void v) {
        TypeMirror left = typeOf(tree.getLeftOperand());
        TypeMirror right = typeOf(tree.getRightOperand());
        boolean isText = isNamed(left, "java.lang.String") || isNamed(right, "java.lang.String");
        boolean isCompared = tree.getKind() == Tree.Kind.EQUAL_TO || tree.getKind() == Tree.Kind.NOT_EQUAL_TO;
        that(!isText || tree.getKind() != Tree.Kind.PLUS, 10, "texts joined by +");
        boolean isNull = left.getKind() == TypeKind.NULL || right.getKind() == TypeKind.NULL;
        that(!isCompared || isNull || !isText && !isNamed(left, "java.lang.Integer"), 6, "texts or Integers compared by ==");
        return super.visitBinary(tree, v);
    }

    // ---- 9: loops

    @Override
    public Void visitForLoop(ForLoopTree tree, Void v) {
        String counter = tree.getUpdate().size() == 1 ? counted(tree.getUpdate().get(0)) : null;
        that(counter != null && isBound(tree.getCondition(), counter), 9, "a loop whose end isn't seen");
        that(counter == null || !new Changes(counter).in(tree.getStatement()), 9, "a loop that changes its counter");
        return super.visitForLoop(tree, v);
    }

    @Override
    public Void visitWhileLoop(WhileLoopTree tree, Void v) {
        that(isBoundByBody(tree.getCondition(), tree.getStatement()), 9, "a loop whose end isn't seen");
        return super.visitWhileLoop(tree, v);
    }

    @Override
    public Void visitDoWhileLoop(DoWhileLoopTree tree, Void v) {
        that(isBoundByBody(tree.getCondition(), tree.getStatement()), 9, "a loop whose end isn't seen");
        return super.visitDoWhileLoop(tree, v);
    }

    /** The name in name++, or null. */
    private static String counted(Tree tree) {
        Tree inside = tree instanceof ExpressionStatementTree one ? one.getExpression() : tree;
        boolean isMore = inside.getKind() == Tree.Kind.POSTFIX_INCREMENT || inside.getKind() == Tree.Kind.PREFIX_INCREMENT;
        return isMore ? ((UnaryTree) inside).getExpression().toString() : null;
    }

    /** Whether the counter must be below, or at most, something. */
    private static boolean isBound(Tree condition, String counter) {
        if (condition instanceof ParenthesizedTree one) return isBound(one.getExpression(), counter);
        if (!(condition instanceof BinaryTree one)) return false;
        if (condition.getKind() == Tree.Kind.CONDITIONAL_AND) {
            return isBound(one.getLeftOperand(), counter) || isBound(one.getRightOperand(), counter);
        }
        boolean isBelow = condition.getKind() == Tree.Kind.LESS_THAN || condition.getKind() == Tree.Kind.LESS_THAN_EQUAL;
        return isBelow && one.getLeftOperand().toString().equals(counter);
    }

    private static boolean isBoundByBody(Tree condition, StatementTree body) {
        List<? extends StatementTree> all = body instanceof BlockTree block ? block.getStatements() : List.of(body);
        for (StatementTree one : all) {
            String counter = counted(one);
            if (counter != null && isBound(condition, counter)) return true;
        }
        return false;
    }

    /** Whether a name becomes something else. */
    private static final class Changes extends com.sun.source.util.TreeScanner<Void, Void> {
        private final String name;
        private boolean is;

        Changes(String name) {
            this.name = name;
        }

        boolean in(Tree tree) {
            scan(tree, null);
            return is;
        }

        @Override
        public Void visitAssignment(AssignmentTree tree, Void v) {
            is |= tree.getVariable().toString().equals(name);
            return super.visitAssignment(tree, v);
        }

        @Override
        public Void visitCompoundAssignment(CompoundAssignmentTree tree, Void v) {
            is |= tree.getVariable().toString().equals(name);
            return super.visitCompoundAssignment(tree, v);
        }

        @Override
        public Void visitUnary(UnaryTree tree, Void v) {
            Tree.Kind kind = tree.getKind();
            boolean isChange = kind == Tree.Kind.POSTFIX_INCREMENT || kind == Tree.Kind.PREFIX_INCREMENT
                    || kind == Tree.Kind.POSTFIX_DECREMENT || kind == Tree.Kind.PREFIX_DECREMENT;
            is |= isChange && tree.getExpression().toString().equals(name);
            return super.visitUnary(tree, v);
        }
    }
}
