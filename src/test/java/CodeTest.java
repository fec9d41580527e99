import com.sun.source.tree.BinaryTree;
import com.sun.source.tree.BlockTree;
import com.sun.source.tree.ClassTree;
import com.sun.source.tree.CompilationUnitTree;
import com.sun.source.tree.CompoundAssignmentTree;
import com.sun.source.tree.DoWhileLoopTree;
import com.sun.source.tree.ExpressionTree;
import com.sun.source.tree.ForLoopTree;
import com.sun.source.tree.ImportTree;
import com.sun.source.tree.LiteralTree;
import com.sun.source.tree.MethodInvocationTree;
import com.sun.source.tree.MethodTree;
import com.sun.source.tree.NewClassTree;
import com.sun.source.tree.ParenthesizedTree;
import com.sun.source.tree.Tree;
import com.sun.source.tree.VariableTree;
import com.sun.source.tree.WhileLoopTree;
import com.sun.source.util.JavacTask;
import com.sun.source.util.TreePath;
import com.sun.source.util.TreePathScanner;
import com.sun.source.util.Trees;
import java.util.ArrayDeque;
import java.util.Deque;
import java.util.LinkedHashMap;
import java.util.LinkedHashSet;
import java.util.List;
import java.util.Map;
import java.util.Set;
import java.util.regex.Pattern;
import javax.lang.model.element.Element;
import javax.lang.model.element.ElementKind;
import javax.lang.model.element.ExecutableElement;
import javax.lang.model.element.Modifier;
import javax.lang.model.element.TypeElement;
import javax.lang.model.element.VariableElement;
import javax.lang.model.type.TypeKind;
import javax.lang.model.type.TypeMirror;
import javax.tools.JavaCompiler;
import javax.tools.StandardJavaFileManager;
import javax.tools.ToolProvider;

/**
 * LANGUAGE.md's rules, as far as they can be seen in the class's own text: the compiler's tree of it is gone through.
 * Another file can be named: java .. CodeTest FILE.
 */
public final class CodeTest extends TreePathScanner<Void, Void> {
    private static final String FILE = "src/main/java/UnderstudyShow.java";
    private static final int MOST_PARAMETERS = 7;
    private static final int MOST_LINES = 60;
    private static final int DEEPEST = 8;
    private static final int MOST_CLASSES = 12;
    private static final int MOST_FIELDS = 20;

    /** Sorts of code that may stand nowhere, with the rule that says so. */
    private static final Map<Tree.Kind, Integer> RULED_OUT = Map.of(Tree.Kind.LAMBDA_EXPRESSION, 2,
        Tree.Kind.MEMBER_REFERENCE, 2, Tree.Kind.THROW, 6, Tree.Kind.TRY, 6, Tree.Kind.CATCH, 6, Tree.Kind.SYNCHRONIZED, 6,
        Tree.Kind.ASSERT, 6);
    private static final Set<String> IMPORTS =
        Set.of("java.util.ArrayList", "java.util.List", "java.util.Arrays", "java.util.Iterator");
    private static final Map<String, Set<String>> LIBRARY = Map.of(
        "java.lang.Object", Set.of("<init>"),
        "java.lang.Enum", Set.of("<init>"),
        "java.lang.String", Set.of("<init>", "length", "charAt", "isEmpty", "equals", "indexOf", "substring", "toCharArray"),
        "java.lang.StringBuilder", Set.of("<init>", "append", "charAt", "setCharAt", "setLength", "deleteCharAt", "reverse",
            "length", "toString"),
        "java.util.ArrayList", Set.of("<init>", "add", "get", "set", "remove", "size", "isEmpty", "clear"),
        "java.util.List", Set.of("add", "get", "set", "remove", "size", "isEmpty", "clear", "of"),
        "java.lang.System", Set.of("arraycopy"),
        "java.util.Arrays", Set.of("copyOf", "copyOfRange", "fill"),
        "Array", Set.of("clone"));
    private static final Set<String> WITH_STATIC_FUNCTIONS = Set.of("java.lang.Math", "java.lang.Integer", "java.lang.Long");
    private static final Pattern TYPES = Pattern.compile("(int|long|short|byte|char|boolean|double|float)(\\[\\]){0,2}"
        + "|UnderstudyShow(\\.\\w+(<[\\w.]+>)?)?(\\[\\])?|java\\.lang\\.(String|StringBuilder|Integer)"
        + "|java\\.util\\.(ArrayList|List|Iterator)<(UnderstudyShow\\.\\w+|java\\.lang\\.Integer)>|[A-Z]");
    /** The last one is for an enum's values(), kept once. */
    private static final Pattern STATIC_TYPES = Pattern.compile("int|long|boolean|char|java\\.lang\\.String|(int|long|char|byte)\\[\\]"
        + "|UnderstudyShow\\.\\w+\\[\\]");

    private final Trees trees;
    private final CompilationUnitTree unit;
    /** Which methods each one of the file calls; what fields begin with is called by the constructors. */
    private final Map<String, Set<String>> calls = new LinkedHashMap<>();
    private final Deque<String> deepest = new ArrayDeque<>();
    private int classes = 0;
    private int wrong = 0;

    private CodeTest(Trees trees, CompilationUnitTree unit) {
        this.trees = trees;
        this.unit = unit;
    }

    private void against(int rule, Tree where, String what) {
        wrong++;
        long line = unit.getLineMap().getLineNumber(trees.getSourcePositions().getStartPosition(unit, where));
        System.out.println("CodeTest: line " + line + ", rule " + rule + ": " + what);
    }

    // ---- what is ruled out wherever it stands ----

    @Override
    public Void visitImport(ImportTree tree, Void none) {
        if (tree.isStatic() || !IMPORTS.contains(tree.getQualifiedIdentifier().toString())) {
            against(4, tree, "" + tree);
        }
        return null;
    }

    @Override
    public Void scan(Tree tree, Void none) {
        if (tree != null && RULED_OUT.containsKey(tree.getKind())) {
            against(RULED_OUT.get(tree.getKind()), tree, "" + tree.getKind());
        }
        return super.scan(tree, none);
    }

    @Override
    public Void visitLiteral(LiteralTree tree, Void none) {
        boolean strange = tree.getValue() instanceof String text && text.chars().anyMatch(sign -> sign < 1 || sign > 127);
        if (strange) {
            against(4, tree, "a sign beyond 1 to 127");
        }
        return super.visitLiteral(tree, none);
    }

    // ---- loops and operators ----

    private void lookForEnd(Tree loop, ExpressionTree condition) {
        Tree inside = condition;
        while (inside instanceof ParenthesizedTree brackets) {
            inside = brackets.getExpression();
        }
        boolean always = inside instanceof LiteralTree literal && Boolean.TRUE.equals(literal.getValue());
        if (inside == null || always) {
            against(9, loop, "a loop whose end is not seen");
        }
    }

    @Override
    public Void visitWhileLoop(WhileLoopTree tree, Void none) {
        lookForEnd(tree, tree.getCondition());
        return super.visitWhileLoop(tree, none);
    }

    @Override
    public Void visitDoWhileLoop(DoWhileLoopTree tree, Void none) {
        lookForEnd(tree, tree.getCondition());
        return super.visitDoWhileLoop(tree, none);
    }

    @Override
    public Void visitForLoop(ForLoopTree tree, Void none) {
        lookForEnd(tree, tree.getCondition());
        return super.visitForLoop(tree, none);
    }

    private String typeOf(Tree part) {
        return "" + trees.getTypeMirror(new TreePath(getCurrentPath(), part));
    }

    @Override
    public Void visitBinary(BinaryTree tree, Void none) {
        String left = typeOf(tree.getLeftOperand());
        String right = typeOf(tree.getRightOperand());
        boolean texts = left.equals("java.lang.String") || right.equals("java.lang.String");
        boolean same = tree.getKind() == Tree.Kind.EQUAL_TO || tree.getKind() == Tree.Kind.NOT_EQUAL_TO;
        if (tree.getKind() == Tree.Kind.PLUS && texts) {
            against(10, tree, "texts joined by +");
        }
        if (same && left.equals(right) && (texts || left.equals("java.lang.Integer"))) {
            against(6, tree, "== between two of " + left);
        }
        return super.visitBinary(tree, none);
    }

    @Override
    public Void visitCompoundAssignment(CompoundAssignmentTree tree, Void none) {
        if (typeOf(tree.getVariable()).equals("java.lang.String")) {
            against(10, tree, "texts joined by +=");
        }
        return super.visitCompoundAssignment(tree, none);
    }

    // ---- classes, fields, methods ----

    @Override
    public Void visitClass(ClassTree tree, Void none) {
        classes++;
        Tree around = getCurrentPath().getParentPath().getLeaf();
        Element here = trees.getElement(getCurrentPath());
        if (around instanceof BlockTree || around instanceof NewClassTree) {
            against(2, tree, "a class that is local or has no name");
        } else if (around instanceof ClassTree) {
            Set<Modifier> modifiers = here.getModifiers();
            if (!modifiers.contains(Modifier.STATIC) || modifiers.contains(Modifier.PUBLIC) || modifiers.contains(Modifier.PROTECTED)) {
                against(1, tree, "a class inside that is not static, or is seen from outside");
            }
        }
        int fields = 0;
        for (Tree member : tree.getMembers()) {
            if (member instanceof BlockTree) {
                against(5, member, "an initialiser block");
            }
            boolean isStatic = member instanceof VariableTree variable && variable.getModifiers().getFlags().contains(Modifier.STATIC);
            fields += member instanceof VariableTree && !isStatic ? 1 : 0;
        }
        if (fields > MOST_FIELDS) {
            against(11, tree, fields + " fields");
        }
        return super.visitClass(tree, none);
    }

    @Override
    public Void visitVariable(VariableTree tree, Void none) {
        Element here = trees.getElement(getCurrentPath());
        String type = "" + here.asType();
        if (!TYPES.matcher(type).matches()) {
            against(3, tree, "a variable of " + type);
        }
        boolean isStatic = here.getKind() == ElementKind.FIELD && here.getModifiers().contains(Modifier.STATIC);
        boolean isConstant = here.getModifiers().contains(Modifier.FINAL) && tree.getInitializer() != null
            && STATIC_TYPES.matcher(type).matches();
        if (isStatic && !isConstant) {
            against(5, tree, "a static field that is no constant");
        }
        return super.visitVariable(tree, none);
    }

    @Override
    public Void visitMethod(MethodTree tree, Void none) {
        if (tree.getParameters().size() > MOST_PARAMETERS) {
            against(11, tree, tree.getParameters().size() + " parameters");
        }
        long from = trees.getSourcePositions().getStartPosition(unit, tree);
        long to = trees.getSourcePositions().getEndPosition(unit, tree);
        long lines = from < 0 || to < 0 ? 0 : unit.getLineMap().getLineNumber(to) - unit.getLineMap().getLineNumber(from) + 1;
        if (lines > MOST_LINES) {
            against(11, tree, tree.getName() + " has " + lines + " lines");
        }
        if (tree.getReturnType() != null && !typeOf(tree.getReturnType()).equals("void")
                && !TYPES.matcher(typeOf(tree.getReturnType())).matches()) {
            against(3, tree, tree.getName() + " answers " + typeOf(tree.getReturnType()));
        }
        return super.visitMethod(tree, none);
    }

    // ---- calls ----

    private static String ownerOf(Element called) {
        return called.getEnclosingElement() instanceof TypeElement owner ? "" + owner.getQualifiedName() : "";
    }

    private static String nameOf(Element called) {
        return ownerOf(called).replace("UnderstudyShow.", "") + "." + called.getSimpleName();
    }

    private String caller() {
        for (TreePath path = getCurrentPath(); path != null; path = path.getParentPath()) {
            if (path.getLeaf() instanceof MethodTree) {
                return nameOf(trees.getElement(path));
            }
            if (path.getLeaf() instanceof ClassTree) {
                return ("" + ((TypeElement) trees.getElement(path)).getQualifiedName()).replace("UnderstudyShow.", "") + ".<init>";
            }
        }
        return "";
    }

    private static boolean isNumber(TypeMirror type) {
        return type.getKind() == TypeKind.INT || type.getKind() == TypeKind.LONG;
    }

    private static boolean isFunctionOfNumbers(ExecutableElement called) {
        boolean overNumbers = isNumber(called.getReturnType());
        for (VariableElement parameter : called.getParameters()) {
            overNumbers &= isNumber(parameter.asType());
        }
        return overNumbers && called.getModifiers().contains(Modifier.STATIC) && !called.getParameters().isEmpty()
            && !("" + called.getSimpleName()).endsWith("Exact");
    }

    private void call(Tree tree, Element called) {
        String owner = ownerOf(called);
        calls.computeIfAbsent(caller(), name -> new LinkedHashSet<>()).add(nameOf(called));
        if (owner.equals("UnderstudyShow") || owner.startsWith("UnderstudyShow.")) {
            return;
        }
        boolean inTheList = LIBRARY.getOrDefault(owner, Set.of()).contains("" + called.getSimpleName());
        boolean isFunction = WITH_STATIC_FUNCTIONS.contains(owner) && called instanceof ExecutableElement function
            && isFunctionOfNumbers(function);
        if (!inTheList && !isFunction) {
            against(4, tree, "a call of " + owner + "." + called.getSimpleName());
        }
    }

    @Override
    public Void visitMethodInvocation(MethodInvocationTree tree, Void none) {
        call(tree, trees.getElement(getCurrentPath()));
        return super.visitMethodInvocation(tree, none);
    }

    @Override
    public Void visitNewClass(NewClassTree tree, Void none) {
        call(tree, trees.getElement(getCurrentPath()));
        return super.visitNewClass(tree, none);
    }

    /** Goes down all chains of calls, the library's at their ends; a method that stands open already is recursion. */
    private void goDown(String method, Deque<String> open) {
        if (open.contains(method)) {
            return;
        }
        open.addLast(method);
        if (open.size() > deepest.size()) {
            deepest.clear();
            deepest.addAll(open);
        }
        for (String called : calls.getOrDefault(method, Set.of())) {
            goDown(called, open);
        }
        open.removeLast();
    }

    private void lookAtAll() {
        scan(unit, null);
        if (unit.getPackageName() != null || classes == 0) {
            against(1, unit, "a package, or no class");
        }
        if (classes > MOST_CLASSES) {
            against(11, unit, classes + " classes");
        }
        for (String method : List.copyOf(calls.keySet())) {
            goDown(method, new ArrayDeque<>());
        }
        if (deepest.size() > DEEPEST) {
            against(11, unit, "calls go " + deepest.size() + " deep: " + deepest);
        }
    }

    public static void main(String[] args) throws Exception {
        JavaCompiler compiler = ToolProvider.getSystemJavaCompiler();
        StandardJavaFileManager files = compiler.getStandardFileManager(null, null, null);
        JavacTask task = (JavacTask) compiler.getTask(null, files, null, List.of("-proc:none", "--release", "17"), null,
            files.getJavaFileObjects(args.length > 0 ? args[0] : FILE));
        CompilationUnitTree unit = task.parse().iterator().next();
        task.analyze();
        CodeTest test = new CodeTest(Trees.instance(task), unit);
        test.lookAtAll();
        System.out.println("CodeTest: " + (test.wrong == 0 ? "the rules are kept" : test.wrong + " places against the rules"));
        System.exit(test.wrong == 0 ? 0 : 1);
    }
}
