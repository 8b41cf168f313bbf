import com.sun.source.tree.AssertTree;
import com.sun.source.tree.BinaryTree;
import com.sun.source.tree.BlockTree;
import com.sun.source.tree.ClassTree;
import com.sun.source.tree.CompilationUnitTree;
import com.sun.source.tree.CompoundAssignmentTree;
import com.sun.source.tree.EnhancedForLoopTree;
import com.sun.source.tree.ExpressionTree;
import com.sun.source.tree.ForLoopTree;
import com.sun.source.tree.ImportTree;
import com.sun.source.tree.LambdaExpressionTree;
import com.sun.source.tree.LiteralTree;
import com.sun.source.tree.MemberReferenceTree;
import com.sun.source.tree.MethodInvocationTree;
import com.sun.source.tree.MethodTree;
import com.sun.source.tree.NewArrayTree;
import com.sun.source.tree.NewClassTree;
import com.sun.source.tree.SynchronizedTree;
import com.sun.source.tree.ThrowTree;
import com.sun.source.tree.Tree;
import com.sun.source.tree.TryTree;
import com.sun.source.tree.VariableTree;
import com.sun.source.tree.WhileLoopTree;
import com.sun.source.util.JavacTask;
import com.sun.source.util.SourcePositions;
import com.sun.source.util.TreePath;
import com.sun.source.util.TreePathScanner;
import com.sun.source.util.Trees;
import java.nio.file.Path;
import java.util.ArrayList;
import java.util.HashMap;
import java.util.HashSet;
import java.util.List;
import java.util.Map;
import java.util.Set;
import java.util.TreeMap;
import java.util.TreeSet;
import javax.lang.model.element.Element;
import javax.lang.model.element.ExecutableElement;
import javax.lang.model.element.Modifier;
import javax.lang.model.type.ArrayType;
import javax.lang.model.type.DeclaredType;
import javax.lang.model.type.TypeKind;
import javax.lang.model.type.TypeMirror;
import javax.tools.JavaCompiler;
import javax.tools.StandardJavaFileManager;
import javax.tools.ToolProvider;

/**
 * The source of the class, rule by rule of LANGUAGE.md where a rule can be read off it: the compiler
 * reads it, and what it has read is walked. What the rules leave free and this class does without, to
 * be safe (objects made by calls, divisors that are no constants), is told as a note and fails nothing.
 */
public final class Language extends TreePathScanner<Void, Void> {
    private static final int MOST_PARAMETERS = 7, DEEPEST = 8;
    /** The rules say "some" ahead of these: up to a quarter more passes. */
    private static final int SOME_CLASSES = 12, SOME_FIELDS = 20, SOME_LINES = 60;
    /** Those that call themselves, or one another, and carry their depth as an argument (rule 8). */
    private static final Set<String> RECURSIVE = Set.of("Asks.run", "Arms.leastFirstMove", "Arms.leads");
    private static final Set<String> LIBRARY = Set.of("String.length", "String.charAt", "String.isEmpty",
            "String.equals", "String.indexOf", "String.substring", "String.toCharArray", "StringBuilder.append",
            "StringBuilder.charAt", "StringBuilder.setCharAt", "StringBuilder.setLength", "StringBuilder.deleteCharAt",
            "StringBuilder.reverse", "StringBuilder.length", "StringBuilder.toString", "System.arraycopy",
            "Arrays.copyOf", "Arrays.copyOfRange", "Arrays.fill", "Array.clone");
    private static final Set<String> LISTS = Set.of("add", "get", "set", "remove", "size", "isEmpty", "clear", "of");
    private static final Set<String> LIBRARY_TYPES = Set.of("java.lang.String", "java.lang.StringBuilder",
            "java.lang.Integer", "java.util.ArrayList", "java.util.List", "java.util.Iterator", "java.lang.Iterable",
            "java.lang.Comparable");
    private static final Set<String> CONSTANT_TYPES = Set.of("int", "long", "boolean", "char", "java.lang.String",
            "int[]", "long[]", "char[]", "byte[]");

    private final Trees trees;
    private final CompilationUnitTree unit;
    private final Map<String, Set<String>> calls = new TreeMap<>();
    private final Set<String> face = new TreeSet<>();
    private final Set<String> told = new HashSet<>();
    private int classes;
    private int wrong;

    private Language(Trees trees, CompilationUnitTree unit) {
        this.trees = trees;
        this.unit = unit;
    }

    public static void main(String[] args) throws Exception {
        String file = args.length > 0 ? args[0] : "src/main/java/TableArms.java";
        JavaCompiler compiler = ToolProvider.getSystemJavaCompiler();
        try (StandardJavaFileManager files = compiler.getStandardFileManager(null, null, null)) {
            JavacTask task = (JavacTask) compiler.getTask(null, files, null, List.of("-proc:none"), null,
                    files.getJavaFileObjects(Path.of(file)));
            CompilationUnitTree unit = task.parse().iterator().next();
            task.analyze();
            Language language = new Language(Trees.instance(task), unit);
            language.walk();
            System.out.println("Language: " + (language.wrong == 0 ? "1 passed, 0 failed" : "0 passed, 1 failed"));
            System.exit(language.wrong == 0 ? 0 : 1);
        }
    }

    private void walk() {
        check(unit.getPackageName() == null, unit, 0, "a package line");
        check(unit.getTypeDecls().size() == 1, unit, 0, "more than one class outside");
        for (ImportTree line : unit.getImports()) {
            String name = line.getQualifiedIdentifier().toString();
            check(LIBRARY_TYPES.contains(name) || name.equals("java.util.Arrays"), line, 4, "import " + name);
        }
        scan(unit, null);
        some(classes, SOME_CLASSES, unit, "classes");
        recursionIsKnown();
        callsAreNotDeep();
    }

    private void check(boolean holds, Tree where, int rule, String what) {
        if (holds) {
            return;
        }
        SourcePositions positions = trees.getSourcePositions();
        long line = unit.getLineMap().getLineNumber(Math.max(0, positions.getStartPosition(unit, where)));
        String text = "Language, line " + line + ", rule " + rule + ": " + what;
        if (told.add(text)) {
            wrong++;
            System.out.println(text);
        }
    }

    private void note(boolean holds, Tree where, String what) {
        if (!holds) {
            long line = unit.getLineMap().getLineNumber(trees.getSourcePositions().getStartPosition(unit, where));
            System.out.println("note, line " + line + ": " + what);
        }
    }

    private void some(long many, int most, Tree where, String what) {
        check(4 * many <= 5L * most, where, 11, what + ": " + many);
        note(many <= most, where, what + ": " + many + ", some " + most + " are fine");
    }

    private void never(Tree where, int rule, String what) {
        check(false, where, rule, what);
    }

    // ---- what must not be there at all

    @Override
    public Void visitLambdaExpression(LambdaExpressionTree tree, Void v) {
        never(tree, 2, "a lambda");
        return super.visitLambdaExpression(tree, v);
    }

    @Override
    public Void visitMemberReference(MemberReferenceTree tree, Void v) {
        never(tree, 2, "a method reference");
        return super.visitMemberReference(tree, v);
    }

    @Override
    public Void visitThrow(ThrowTree tree, Void v) {
        never(tree, 6, "throw");
        return super.visitThrow(tree, v);
    }

    @Override
    public Void visitTry(TryTree tree, Void v) {
        never(tree, 6, "try");
        return super.visitTry(tree, v);
    }

    @Override
    public Void visitSynchronized(SynchronizedTree tree, Void v) {
        never(tree, 6, "synchronized");
        return super.visitSynchronized(tree, v);
    }

    @Override
    public Void visitAssert(AssertTree tree, Void v) {
        never(tree, 6, "assert");
        return super.visitAssert(tree, v);
    }

    // ---- classes, fields, methods

    @Override
    public Void visitClass(ClassTree tree, Void v) {
        classes++;
        boolean outside = getCurrentPath().getParentPath().getLeaf() instanceof CompilationUnitTree;
        Set<Modifier> marks = trees.getElement(getCurrentPath()).getModifiers();
        if (outside) {
            check(marks.equals(Set.of(Modifier.PUBLIC, Modifier.FINAL)), tree, 1, "the class is " + marks);
        } else {
            boolean inClass = getCurrentPath().getParentPath().getLeaf() instanceof ClassTree;
            check(inClass && marks.contains(Modifier.STATIC), tree, 2, "a class that isn't static: " + tree.getSimpleName());
            check(!marks.contains(Modifier.PUBLIC) && !marks.contains(Modifier.PROTECTED), tree, 1, "too open a class");
        }
        int fields = 0;
        for (Tree member : tree.getMembers()) {
            check(!(member instanceof BlockTree), member, 5, "an initialiser block");
            boolean isField = member instanceof VariableTree;
            fields += isField && !((VariableTree) member).getModifiers().getFlags().contains(Modifier.STATIC) ? 1 : 0;
        }
        some(fields, SOME_FIELDS, tree, "fields");
        return super.visitClass(tree, v);
    }

    @Override
    public Void visitVariable(VariableTree tree, Void v) {
        Set<Modifier> marks = tree.getModifiers().getFlags();
        TypeMirror type = trees.getTypeMirror(getCurrentPath());
        check(isAllowed(type), tree, 3, "a variable of type " + type);
        if (marks.contains(Modifier.STATIC)) {
            check(marks.contains(Modifier.FINAL), tree, 5, "static state");
            check(CONSTANT_TYPES.contains(String.valueOf(type)), tree, 5, "a constant of type " + type);
        }
        return super.visitVariable(tree, v);
    }

    private static boolean isAllowed(TypeMirror type) {
        if (type == null || type.getKind() == TypeKind.VOID || type.getKind().isPrimitive()) {
            return type != null;
        }
        if (type instanceof ArrayType) {
            TypeMirror item = ((ArrayType) type).getComponentType();
            boolean flat = !(item instanceof ArrayType);
            return flat ? item.getKind().isPrimitive() || isOwn(item)
                    : ((ArrayType) item).getComponentType().getKind().isPrimitive();
        }
        boolean isLibrarys = LIBRARY_TYPES.contains(type.toString().replaceFirst("<.*", ""));
        return isOwn(type) || isLibrarys || type.getKind() == TypeKind.TYPEVAR;
    }

    private static boolean isOwn(TypeMirror type) {
        return type instanceof DeclaredType && type.toString().startsWith("TableArms");
    }

    @Override
    public Void visitMethod(MethodTree tree, Void v) {
        ExecutableElement method = (ExecutableElement) trees.getElement(getCurrentPath());
        String name = nameOf(method);
        calls.computeIfAbsent(name, k -> new TreeSet<>());
        boolean isFace = name.startsWith("TableArms.") && method.getModifiers().contains(Modifier.PUBLIC);
        if (isFace) {
            face.add(name);
        }
        boolean isMade = name.endsWith(".<init>");
        if (name.startsWith("TableArms.") && !isFace && !isMade) {
            check(method.getModifiers().contains(Modifier.PRIVATE), tree, 1, "neither public nor private: " + name);
        }
        check(isAllowed(method.getReturnType()), tree, 3, "a method of type " + method.getReturnType());
        check(tree.getParameters().size() <= MOST_PARAMETERS, tree, 11, "parameters of " + name);
        some(linesOf(tree), SOME_LINES, tree, "lines of " + name);
        return super.visitMethod(tree, v);
    }

    private long linesOf(Tree tree) {
        SourcePositions positions = trees.getSourcePositions();
        long from = positions.getStartPosition(unit, tree);
        long to = positions.getEndPosition(unit, tree);
        return to < 0 ? 1 : unit.getLineMap().getLineNumber(to) - unit.getLineMap().getLineNumber(from) + 1;
    }

    // ---- what methods do

    @Override
    public Void visitMethodInvocation(MethodInvocationTree tree, Void v) {
        Element called = trees.getElement(getCurrentPath());
        String name = nameOf(called);
        boolean own = ownerOf(called).startsWith("TableArms");
        boolean isSuper = tree.getMethodSelect().toString().equals("super");
        if (!isSuper) {
            check(own || isListed(name), tree, 4, "the library's " + name);
        }
        String caller = callerOf();
        if (own && !caller.isEmpty()) {
            calls.computeIfAbsent(caller, k -> new TreeSet<>()).add(name);
        }
        return super.visitMethodInvocation(tree, v);
    }

    private static boolean isListed(String name) {
        String owner = name.substring(0, name.indexOf('.'));
        String method = name.substring(name.indexOf('.') + 1);
        if (Set.of("Math", "Integer", "Long").contains(owner)) {
            return !method.endsWith("Exact");
        }
        if (Set.of("List", "ArrayList", "Collection").contains(owner)) {
            return LISTS.contains(method);
        }
        return LIBRARY.contains(name) || Set.of("Iterator", "Iterable", "Comparable", "Enum").contains(owner);
    }

    @Override
    public Void visitNewClass(NewClassTree tree, Void v) {
        check(tree.getClassBody() == null, tree, 2, "an anonymous class");
        check(isAllowed(trees.getTypeMirror(getCurrentPath())), tree, 4, "a new one of the library's");
        note(isInConstruction(), tree, "a call makes an object");
        return super.visitNewClass(tree, v);
    }

    @Override
    public Void visitNewArray(NewArrayTree tree, Void v) {
        note(isInConstruction(), tree, "a call makes an array");
        return super.visitNewArray(tree, v);
    }

    /** All is made with the object. */
    private boolean isInConstruction() {
        String caller = callerOf();
        return caller.isEmpty() || caller.endsWith(".<init>");
    }

    @Override
    public Void visitBinary(BinaryTree tree, Void v) {
        boolean left = isText(tree.getLeftOperand());
        boolean right = isText(tree.getRightOperand());
        check(!left && !right || tree.getKind() != Tree.Kind.PLUS, tree, 10, "texts joined by +: " + tree);
        check(!left || !right, tree, 6, "texts compared: " + tree);
        boolean divides = tree.getKind() == Tree.Kind.DIVIDE || tree.getKind() == Tree.Kind.REMAINDER;
        note(!divides || isConstant(tree.getRightOperand()), tree, "a divisor that is no constant: " + tree);
        return super.visitBinary(tree, v);
    }

    @Override
    public Void visitCompoundAssignment(CompoundAssignmentTree tree, Void v) {
        check(!isText(tree.getVariable()), tree, 10, "texts joined by +");
        boolean divides = tree.getKind() == Tree.Kind.DIVIDE_ASSIGNMENT || tree.getKind() == Tree.Kind.REMAINDER_ASSIGNMENT;
        note(!divides || isConstant(tree.getExpression()), tree, "a divisor that is no constant: " + tree);
        return super.visitCompoundAssignment(tree, v);
    }

    private boolean isText(ExpressionTree tree) {
        return "java.lang.String".equals(String.valueOf(trees.getTypeMirror(new TreePath(getCurrentPath(), tree))));
    }

    /** A product of constants and figures, none of which is 0 in this class. */
    private boolean isConstant(ExpressionTree tree) {
        return tree.toString().matches("\\(?[A-Z_1-9 *]+\\)?");
    }

    @Override
    public Void visitLiteral(LiteralTree tree, Void v) {
        if (tree.getValue() instanceof String) {
            check(((String) tree.getValue()).matches("[\\x01-\\x7f]*"), tree, 4, "a sign beyond 127");
        }
        return super.visitLiteral(tree, v);
    }

    @Override
    public Void visitForLoop(ForLoopTree tree, Void v) {
        note(tree.getCondition() != null && !tree.getUpdate().isEmpty(), tree, "a loop whose end isn't in its head");
        return super.visitForLoop(tree, v);
    }

    @Override
    public Void visitWhileLoop(WhileLoopTree tree, Void v) {
        note(tree.getCondition().toString().contains("<"), tree, "a loop whose bound isn't in its head");
        return super.visitWhileLoop(tree, v);
    }

    @Override
    public Void visitEnhancedForLoop(EnhancedForLoopTree tree, Void v) {
        TypeMirror over = trees.getTypeMirror(new TreePath(getCurrentPath(), tree.getExpression()));
        note(over instanceof ArrayType, tree, "an iterator is made");
        return super.visitEnhancedForLoop(tree, v);
    }

    private String callerOf() {
        for (TreePath path = getCurrentPath(); path != null; path = path.getParentPath()) {
            if (path.getLeaf() instanceof MethodTree) {
                return nameOf(trees.getElement(path));
            }
        }
        return "";
    }

    private static String nameOf(Element method) {
        return method.getEnclosingElement().getSimpleName() + "." + method.getSimpleName();
    }

    private static String ownerOf(Element method) {
        return method.getEnclosingElement().toString();
    }

    // ---- calls within calls

    private void recursionIsKnown() {
        for (String method : calls.keySet()) {
            boolean again = reachedFrom(method).contains(method);
            note(!again || RECURSIVE.contains(method), unit, "calls itself: " + method);
        }
    }

    private Set<String> reachedFrom(String method) {
        Set<String> reached = new HashSet<>();
        List<String> open = new ArrayList<>(List.of(method));
        while (!open.isEmpty()) {
            for (String next : calls.getOrDefault(open.remove(open.size() - 1), Set.of())) {
                if (reached.add(next)) {
                    open.add(next);
                }
            }
        }
        return reached;
    }

    private void callsAreNotDeep() {
        Map<String, Integer> depths = new HashMap<>();
        for (String method : face) {
            int depth = depthOf(method, new HashSet<>(), depths);
            check(depth <= DEEPEST, unit, 11, method + " goes " + depth + " deep");
        }
    }

    /** Methods that stand open already are recursion, which the rule leaves out. */
    private int depthOf(String method, Set<String> open, Map<String, Integer> depths) {
        if (depths.containsKey(method)) {
            return depths.get(method);
        }
        open.add(method);
        int deepest = 0;
        for (String next : calls.getOrDefault(method, Set.of())) {
            if (!open.contains(next)) {
                deepest = Math.max(deepest, depthOf(next, open, depths));
            }
        }
        open.remove(method);
        if (!RECURSIVE.contains(method)) {
            depths.put(method, deepest + 1);
        }
        return deepest + 1;
    }
}
