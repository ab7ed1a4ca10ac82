import com.sun.source.tree.AssertTree;
import com.sun.source.tree.BinaryTree;
import com.sun.source.tree.BlockTree;
import com.sun.source.tree.CatchTree;
import com.sun.source.tree.ClassTree;
import com.sun.source.tree.CompilationUnitTree;
import com.sun.source.tree.CompoundAssignmentTree;
import com.sun.source.tree.DoWhileLoopTree;
import com.sun.source.tree.ForLoopTree;
import com.sun.source.tree.IdentifierTree;
import com.sun.source.tree.ImportTree;
import com.sun.source.tree.LambdaExpressionTree;
import com.sun.source.tree.LiteralTree;
import com.sun.source.tree.MemberReferenceTree;
import com.sun.source.tree.MethodInvocationTree;
import com.sun.source.tree.MethodTree;
import com.sun.source.tree.NewArrayTree;
import com.sun.source.tree.NewClassTree;
import com.sun.source.tree.SynchronizedTree;
import com.sun.source.tree.ThrowTree;
import com.sun.source.tree.Tree;
import com.sun.source.tree.TryTree;
import com.sun.source.tree.TypeCastTree;
import com.sun.source.tree.VariableTree;
import com.sun.source.tree.WhileLoopTree;
import com.sun.source.util.JavacTask;
import com.sun.source.util.TreePath;
import com.sun.source.util.TreePathScanner;
import com.sun.source.util.Trees;
import java.io.File;
import java.lang.reflect.Constructor;
import java.lang.reflect.Method;
import java.util.ArrayList;
import java.util.Arrays;
import java.util.HashMap;
import java.util.HashSet;
import java.util.List;
import java.util.Map;
import java.util.Set;
import java.util.TreeSet;
import java.util.regex.Pattern;
import javax.lang.model.element.Element;
import javax.lang.model.element.ElementKind;
import javax.lang.model.element.ExecutableElement;
import javax.lang.model.element.Modifier;
import javax.tools.JavaCompiler;
import javax.tools.StandardJavaFileManager;
import javax.tools.ToolProvider;

/** What of LANGUAGE.md the compiler's own reading of the source can show, and the face as the document has it. */
public final class RulesTest extends TreePathScanner<Void, Void> {
    private static final Checks CHECKS = new Checks("RulesTest");
    private static final String SOURCE = "src/main/java/HallSheets.java";
    private static final int MOST_LINES = 60;
    private static final int MOST_CALLS_DEEP = 8;
    private static final Set<String> LIBRARY = Set.of("Math.min", "Math.max", "Math.abs", "Integer.bitCount", "Arrays.fill",
        "System.arraycopy", "String.indexOf");
    private static final Set<String> IMPORTS = Set.of("java.util.Arrays", "java.util.NoSuchElementException");
    private static final Set<String> THROWN = Set.of("IllegalStateException", "IllegalArgumentException",
        "UnsupportedOperationException", "NoSuchElementException");
    private static final Set<String> TYPES = Set.of("int", "long", "boolean", "String", "int[]", "int[][]", "boolean[]", "void");
    private static final String[] FACE = {
        "int hall(int list, int told, int earlier)", "int truly(int hall, int came, int ours)",
        "int sheet(int hall, int kind, int number)", "int set(int what, int n)", "int of(int hall, int what)",
        "int send(int hall)", "int hear(int c, int o)", "int figures(int figure, int what)", "long odds(int figure)",
        "int round(int p)", "int may(int n, int what)", "int middle(int town)", "int left(int hall)", "int trulyAll(int hall)",
        "int watch(int hall, boolean is)", "int cost()", "int ways(int what)", "int up(int district, int came, int ours)",
        "int down(int district)", "int sum(int district, int what)", "int won()", "int helped()",
        "int untrue(int hall, int what)", "int turn()", "int again(int budget, int what)", "int measure(int what)",
        "int odd(int what, int n, int z)", "int land(int z)", "int fault(int d)", "int mark(int d)", "int marked(int hall)",
        "int said(int name, int what)", "int image()", "int restore()", "int count(int what)",
        "int keep(int d, int what, int k)", "int row(int d, int sort, int n)", "int put(int d, int i, int v)",
        "long element(int d, int i) throws IllegalArgumentException, IllegalStateException",
        "int copy(int d, int i, int e, int j, int n)", "int weight(int d)", "int toss(int d)"};
    /** What the interface says ahead of a call. */
    private static final String[][] SAYS = {{"halls, sheets.", "hall"}, {"figures.", "figures"},
        {"clouds, halls that truly all.", "middle"}, {"sums, what is untrue.", "up"}, {"measures, lands.", "measure"},
        {"marks.", "fault"}, {"the image, what is told.", "image"}, {"shelves.", "keep"}};

    private final CompilationUnitTree unit;
    private final Trees trees;
    private final Set<String> faceNames = new HashSet<>();
    private final Set<String> ownClasses = new TreeSet<>();
    private final Map<String, Set<String>> calls = new HashMap<>();

    private RulesTest(CompilationUnitTree unit, Trees trees) {
        this.unit = unit;
        this.trees = trees;
        for (String method : FACE) {
            faceNames.add(method.substring(method.indexOf(' ') + 1, method.indexOf('(')));
        }
    }

    public static void main(String[] args) throws Exception {
        face();
        JavaCompiler compiler = ToolProvider.getSystemJavaCompiler();
        try (StandardJavaFileManager files = compiler.getStandardFileManager(null, null, null)) {
            JavacTask task = (JavacTask) compiler.getTask(null, files, null, List.of("-proc:none"), null,
                files.getJavaFileObjects(new File(SOURCE)));
            CompilationUnitTree unit = task.parse().iterator().next();
            task.analyze();
            RulesTest rules = new RulesTest(unit, Trees.instance(task));
            rules.scan(unit, null);
            rules.whole();
            rules.faceInOrder();
        }
        CHECKS.end();
    }

    private static void face() throws Exception {
        CHECKS.part("rule 1");
        Set<String> due = new TreeSet<>();
        for (String method : FACE) {
            due.add(method.replaceAll(" throws .*", "").replaceAll("(int|boolean) \\w+([,)])", "$1$2"));
        }
        Set<String> is = new TreeSet<>();
        for (Method method : HallSheets.class.getDeclaredMethods()) {
            if (java.lang.reflect.Modifier.isPrivate(method.getModifiers()) || method.isSynthetic()) {
                continue;
            }
            StringBuilder types = new StringBuilder();
            for (Class<?> type : method.getParameterTypes()) {
                types.append(types.length() == 0 ? "" : ", ").append(type.getSimpleName());
            }
            is.add(method.getReturnType().getSimpleName() + " " + method.getName() + "(" + types + ")");
            CHECKS.holds(method + " is public", java.lang.reflect.Modifier.isPublic(method.getModifiers()));
        }
        CHECKS.holds("the face " + is, is.equals(due));
        Constructor<?>[] constructors = HallSheets.class.getDeclaredConstructors();
        CHECKS.due("constructors", constructors.length, 1);
        CHECKS.due("its parameters", constructors[0].getParameterCount(), 0);
        CHECKS.holds("a public final class", java.lang.reflect.Modifier.isFinal(HallSheets.class.getModifiers()));
        Class<?>[] thrown = HallSheets.class.getMethod("element", int.class, int.class).getExceptionTypes();
        CHECKS.holds("what element throws", Arrays.equals(thrown,
            new Class<?>[] {IllegalArgumentException.class, IllegalStateException.class}));
    }

    /** The calls as the document has them, by name and in its order, and what the interface says ahead of them. */
    private void faceInOrder() throws Exception {
        CHECKS.part("the public face");
        List<String> is = new ArrayList<>();
        for (Tree member : ((ClassTree) unit.getTypeDecls().get(0)).getMembers()) {
            if (member instanceof MethodTree && ((MethodTree) member).getModifiers().getFlags().contains(Modifier.PUBLIC)) {
                is.add(told((MethodTree) member));
            }
        }
        CHECKS.due("classes of the file", unit.getTypeDecls().size(), 1);
        CHECKS.holds("no package line", unit.getPackage() == null);
        CHECKS.due("calls", is.size(), FACE.length + 1);
        CHECKS.holds(is.get(0) + " comes first", is.get(0).equals("<init>()"));
        for (int i = 0; i < FACE.length && i + 1 < is.size(); i++) {
            CHECKS.holds(is.get(i + 1) + " is " + FACE[i], is.get(i + 1).equals(FACE[i]));
        }
        String source = unit.getSourceFile().getCharContent(true).toString();
        for (String[] says : SAYS) {
            String ahead = "\\R\\R    // ---- " + Pattern.quote(says[0]) + "\\R\\R    public int " + says[1] + "\\(";
            CHECKS.holds("---- " + says[0] + " is said ahead of " + says[1], Pattern.compile(ahead).matcher(source).find());
        }
    }

    private static String told(MethodTree method) {
        StringBuilder its = new StringBuilder();
        if (method.getReturnType() != null) {
            its.append(method.getReturnType()).append(' ');
        }
        its.append(method.getName()).append('(');
        for (VariableTree parameter : method.getParameters()) {
            its.append(its.charAt(its.length() - 1) == '(' ? "" : ", ").append(parameter);
        }
        its.append(')');
        for (int i = 0; i < method.getThrows().size(); i++) {
            its.append(i == 0 ? " throws " : ", ").append(method.getThrows().get(i));
        }
        return its.toString();
    }

    private void rule(int number, Tree at, String what, boolean is) {
        CHECKS.part("rule " + number);
        CHECKS.holds(what + (is ? "" : ", line " + line(at)), is);
    }

    private long line(Tree at) {
        return unit.getLineMap().getLineNumber(trees.getSourcePositions().getStartPosition(unit, at));
    }

    private long lastLine(Tree at) {
        return unit.getLineMap().getLineNumber(trees.getSourcePositions().getEndPosition(unit, at));
    }

    private MethodTree method() {
        for (TreePath path = getCurrentPath(); path != null; path = path.getParentPath()) {
            if (path.getLeaf() instanceof MethodTree) {
                return (MethodTree) path.getLeaf();
            }
        }
        return null;
    }

    private static String name(Element method) {
        return method.getEnclosingElement().getSimpleName() + "." + method.getSimpleName();
    }

    @Override
    public Void visitImport(ImportTree tree, Void none) {
        rule(4, tree, "import " + tree.getQualifiedIdentifier(), IMPORTS.contains(tree.getQualifiedIdentifier().toString()));
        return super.visitImport(tree, none);
    }

    @Override
    public Void visitClass(ClassTree tree, Void none) {
        Set<Modifier> modifiers = tree.getModifiers().getFlags();
        boolean outer = tree.getSimpleName().contentEquals("HallSheets");
        ownClasses.add(tree.getSimpleName().toString());
        rule(1, tree, tree.getSimpleName() + " is final", modifiers.contains(Modifier.FINAL));
        rule(1, tree, tree.getSimpleName() + " is public or inside", modifiers.contains(outer ? Modifier.PUBLIC : Modifier.PRIVATE));
        rule(1, tree, tree.getSimpleName() + " is static", outer || modifiers.contains(Modifier.STATIC));
        int fields = 0;
        for (Tree member : tree.getMembers()) {
            rule(5, member, "no initialiser block", !(member instanceof BlockTree));
            if (member instanceof VariableTree) {
                Set<Modifier> flags = ((VariableTree) member).getModifiers().getFlags();
                fields += flags.contains(Modifier.STATIC) ? 0 : 1;
                rule(5, member, "a static field is final", !flags.contains(Modifier.STATIC) || flags.contains(Modifier.FINAL));
                String type = ((VariableTree) member).getType().toString();
                rule(5, member, "a static field is a constant", !flags.contains(Modifier.STATIC)
                    || Set.of("int", "long", "String").contains(type) && ((VariableTree) member).getInitializer() != null);
                rule(1, member, "a field is private", !outer || flags.contains(Modifier.PRIVATE));
            }
        }
        rule(11, tree, "fields of " + tree.getSimpleName(), fields <= 20);
        return super.visitClass(tree, none);
    }

    @Override
    public Void visitMethod(MethodTree tree, Void none) {
        Set<Modifier> modifiers = tree.getModifiers().getFlags();
        String name = tree.getName().toString();
        rule(11, tree, "parameters of " + name, tree.getParameters().size() <= 7);
        rule(11, tree, "lines of " + name, lastLine(tree) - line(tree) < MOST_LINES);
        Element owner = trees.getElement(getCurrentPath()).getEnclosingElement();
        boolean outer = owner.getSimpleName().contentEquals("HallSheets");
        boolean constructor = name.equals("<init>");
        rule(1, tree, name + " is of the face or private", constructor || !outer
            || faceNames.contains(name) == modifiers.contains(Modifier.PUBLIC)
            && modifiers.contains(Modifier.PRIVATE) != modifiers.contains(Modifier.PUBLIC));
        rule(1, tree, name + " bears no name of the face", outer || !faceNames.contains(name));
        rule(6, tree, name + " is none of Object's", !Set.of("equals", "hashCode", "toString").contains(name));
        calls.computeIfAbsent(name(trees.getElement(getCurrentPath())), k -> new TreeSet<>());
        return super.visitMethod(tree, none);
    }

    @Override
    public Void visitMethodInvocation(MethodInvocationTree tree, Void none) {
        Element called = trees.getElement(new TreePath(getCurrentPath(), tree.getMethodSelect()));
        String name = name(called);
        if (called.getKind() == ElementKind.CONSTRUCTOR) {
            return super.visitMethodInvocation(tree, none);
        }
        Element inside = method() == null ? null : trees.getElement(trees.getPath(unit, method()));
        boolean own = called.getEnclosingElement().toString().startsWith("HallSheets");
        rule(4, tree, "a call of " + name, own || LIBRARY.contains(name));
        rule(11, tree, name + " is called in a method", inside != null);
        rule(12, tree, name + " is not called by a constructor", method() == null
            || !method().getName().contentEquals("<init>"));
        if (own && inside != null) {
            calls.computeIfAbsent(name(inside), k -> new TreeSet<>()).add(name);
            boolean throwsSome = !((ExecutableElement) called).getThrownTypes().isEmpty();
            rule(6, tree, name + " is not a throwing call of the face", !throwsSome);
        }
        return super.visitMethodInvocation(tree, none);
    }

    @Override
    public Void visitVariable(VariableTree tree, Void none) {
        String type = tree.getType().toString();
        boolean caught = getCurrentPath().getParentPath().getLeaf() instanceof CatchTree;
        boolean own = type.matches("(Hall|Country|Sheet|Shelf|Watchers|Recount|MarkGrammar|MarkTruth)(\\[\\])?");
        rule(3, tree, "type " + type, caught || own || TYPES.contains(type));
        return super.visitVariable(tree, none);
    }

    @Override
    public Void visitNewClass(NewClassTree tree, Void none) {
        boolean made = method() == null || method().getName().contentEquals("<init>");
        boolean thrown = getCurrentPath().getParentPath().getLeaf() instanceof ThrowTree;
        rule(12, tree, "objects are made by constructors, or thrown", made || thrown);
        rule(2, tree, "no anonymous class", tree.getClassBody() == null);
        return super.visitNewClass(tree, none);
    }

    @Override
    public Void visitNewArray(NewArrayTree tree, Void none) {
        rule(12, tree, "arrays are made by constructors", method() == null || method().getName().contentEquals("<init>"));
        return super.visitNewArray(tree, none);
    }

    @Override
    public Void visitThrow(ThrowTree tree, Void none) {
        boolean isNew = tree.getExpression() instanceof NewClassTree;
        String thrown = isNew ? ((NewClassTree) tree.getExpression()).getIdentifier().toString() : "";
        rule(6, tree, "throws " + thrown, THROWN.contains(thrown));
        List<? extends Tree> told = isNew ? ((NewClassTree) tree.getExpression()).getArguments() : List.of();
        rule(6, tree, "a written text or none", told.isEmpty() || told.size() == 1 && told.get(0).getKind() == Tree.Kind.STRING_LITERAL);
        rule(6, tree, "no throw in a constructor", !method().getName().contentEquals("<init>"));
        boolean[] tries = {false};
        new TreePathScanner<Void, Void>() {
            @Override
            public Void visitTry(TryTree inner, Void none) {
                tries[0] = true;
                return null;
            }
        }.scan(new TreePath(getCurrentPath(), method()), null);
        rule(6, tree, "no try beside a throw", !tries[0]);
        return super.visitThrow(tree, none);
    }

    @Override
    public Void visitTypeCast(TypeCastTree tree, Void none) {
        rule(6, tree, "a cast to " + tree.getType() + " can't fail", tree.getType().getKind() == Tree.Kind.PRIMITIVE_TYPE);
        return super.visitTypeCast(tree, none);
    }

    @Override
    public Void visitLiteral(LiteralTree tree, Void none) {
        rule(3, tree, "no double, float", !(tree.getValue() instanceof Double || tree.getValue() instanceof Float));
        boolean isText = tree.getKind() == Tree.Kind.STRING_LITERAL;
        rule(4, tree, "signs 1 to 127", !isText || tree.getValue().toString().matches("[\\x01-\\x7f]*"));
        return super.visitLiteral(tree, none);
    }

    @Override
    public Void visitTry(TryTree tree, Void none) {
        rule(6, tree, "no finally, no resources", tree.getFinallyBlock() == null && tree.getResources().isEmpty());
        return super.visitTry(tree, none);
    }

    @Override
    public Void visitCatch(CatchTree tree, Void none) {
        String type = tree.getParameter().getType().toString();
        String name = tree.getParameter().getName().toString();
        rule(6, tree, "catches " + type, THROWN.contains(type));
        boolean[] used = {false};
        new TreePathScanner<Void, Void>() {
            @Override
            public Void visitIdentifier(IdentifierTree inner, Void none) {
                used[0] |= inner.getName().contentEquals(name);
                return null;
            }
        }.scan(new TreePath(getCurrentPath(), tree.getBlock()), null);
        rule(6, tree, "a caught exception is left alone", !used[0]);
        return super.visitCatch(tree, none);
    }

    @Override
    public Void visitBinary(BinaryTree tree, Void none) {
        String type = trees.getTypeMirror(getCurrentPath()).toString();
        rule(10, tree, "no texts joined by +, but " + type, Set.of("int", "long", "boolean").contains(type));
        return super.visitBinary(tree, none);
    }

    @Override
    public Void visitCompoundAssignment(CompoundAssignmentTree tree, Void none) {
        String type = trees.getTypeMirror(getCurrentPath()).toString();
        rule(10, tree, "no texts joined by +=, but " + type, Set.of("int", "long", "boolean").contains(type));
        return super.visitCompoundAssignment(tree, none);
    }

    @Override
    public Void visitForLoop(ForLoopTree tree, Void none) {
        rule(9, tree, "a for loop counts against a bound", tree.getCondition() != null && tree.getUpdate().size() == 1);
        return super.visitForLoop(tree, none);
    }

    @Override
    public Void visitWhileLoop(WhileLoopTree tree, Void none) {
        rule(9, tree, "no loop but for", false);
        return super.visitWhileLoop(tree, none);
    }

    @Override
    public Void visitDoWhileLoop(DoWhileLoopTree tree, Void none) {
        rule(9, tree, "no loop but for", false);
        return super.visitDoWhileLoop(tree, none);
    }

    @Override
    public Void visitLambdaExpression(LambdaExpressionTree tree, Void none) {
        rule(2, tree, "no lambda", false);
        return super.visitLambdaExpression(tree, none);
    }

    @Override
    public Void visitMemberReference(MemberReferenceTree tree, Void none) {
        rule(2, tree, "no method reference", false);
        return super.visitMemberReference(tree, none);
    }

    @Override
    public Void visitSynchronized(SynchronizedTree tree, Void none) {
        rule(6, tree, "no synchronized", false);
        return super.visitSynchronized(tree, none);
    }

    @Override
    public Void visitAssert(AssertTree tree, Void none) {
        rule(6, tree, "no assert", false);
        return super.visitAssert(tree, none);
    }

    private void whole() {
        CHECKS.part("rule 11");
        CHECKS.holds("classes " + ownClasses, ownClasses.size() <= 12);
        CHECKS.part("rule 8, 11");
        for (String method : calls.keySet()) {
            int deep = deep(method, new HashSet<>());
            CHECKS.holds(method + " goes " + deep + " deep", deep <= MOST_CALLS_DEEP);
        }
        CHECKS.holds("calls were read", calls.size() > FACE.length);
    }

    /** How many calls stand open at once, this one too; far too many if it comes back to itself. */
    private int deep(String method, Set<String> open) {
        if (!open.add(method)) {
            return 1000;
        }
        int most = 0;
        for (String called : calls.getOrDefault(method, Set.of())) {
            most = Math.max(most, deep(called, open));
        }
        open.remove(method);
        return most + 1;
    }
}
