import com.sun.source.tree.AssertTree;
import com.sun.source.tree.BinaryTree;
import com.sun.source.tree.ClassTree;
import com.sun.source.tree.CompilationUnitTree;
import com.sun.source.tree.CompoundAssignmentTree;
import com.sun.source.tree.LambdaExpressionTree;
import com.sun.source.tree.LineMap;
import com.sun.source.tree.MemberReferenceTree;
import com.sun.source.tree.MethodInvocationTree;
import com.sun.source.tree.MethodTree;
import com.sun.source.tree.NewArrayTree;
import com.sun.source.tree.NewClassTree;
import com.sun.source.tree.SynchronizedTree;
import com.sun.source.tree.ThrowTree;
import com.sun.source.tree.Tree;
import com.sun.source.tree.TryTree;
import com.sun.source.tree.TypeCastTree;
import com.sun.source.tree.VariableTree;
import com.sun.source.util.JavacTask;
import com.sun.source.util.TreePath;
import com.sun.source.util.TreePathScanner;
import com.sun.source.util.Trees;
import java.nio.file.Path;
import java.util.ArrayDeque;
import java.util.Deque;
import java.util.LinkedHashMap;
import java.util.LinkedHashSet;
import java.util.List;
import java.util.Map;
import java.util.Set;
import javax.lang.model.element.Element;
import javax.lang.model.element.ElementKind;
import javax.lang.model.element.Modifier;
import javax.lang.model.type.ArrayType;
import javax.lang.model.type.TypeMirror;
import javax.tools.JavaCompiler;
import javax.tools.StandardJavaFileManager;
import javax.tools.ToolProvider;

/**
 * Rules of LANGUAGE.md that the compiler's tree of the program shows. Run from the project's folder. Where the program
 * needs less than a rule allows (it throws nothing, and makes objects in constructors alone), less is asked for.
 */
public final class LanguageTreeTest extends TreePathScanner<Void, Void> {
    private static final String PROGRAM = "src/main/java/EveningClasses.java";
    private static final int MOST_PARAMETERS = 7;
    private static final int MOST_LINES = 60;
    private static final int MOST_DEPTH = 8;
    private static final int MOST_CLASSES = 12;
    private static final int MOST_FIELDS = 20;
    private static final Set<String> FACE = Set.of("course", "room", "join", "wish", "leave", "close", "term", "courseOf",
            "member", "waits", "personOf", "roomOf", "ifClose", "beside", "ifJoin", "mean", "count", "undo", "type",
            "clearText", "fault", "play");
    private static final Set<String> LIBRARY = Set.of("String.length", "String.charAt", "String.isEmpty", "String.equals",
            "String.substring", "String.toCharArray", "Math.max", "Math.min", "Math.abs", "Math.floorDiv", "Math.floorMod",
            "Integer.bitCount", "Integer.max", "Integer.min", "Integer.compare", "System.arraycopy", "Arrays.fill",
            "Arrays.copyOf", "Arrays.copyOfRange");
    private static final Set<String> TYPES = Set.of("int", "long", "short", "byte", "char", "boolean", "double", "float",
            "void", "java.lang.String", "java.lang.StringBuilder", "java.lang.Integer");

    private final Due due = new Due();
    private final Trees trees;
    private final CompilationUnitTree unit;
    private final LineMap lines;
    private final Map<Element, Set<Element>> calls = new LinkedHashMap<>();
    private int classes;

    private LanguageTreeTest(Trees trees, CompilationUnitTree unit) {
        this.trees = trees;
        this.unit = unit;
        this.lines = unit.getLineMap();
    }

    public static void main(String[] args) throws Exception {
        JavaCompiler compiler = ToolProvider.getSystemJavaCompiler();
        try (StandardJavaFileManager files = compiler.getStandardFileManager(null, null, null)) {
            JavacTask task = (JavacTask) compiler.getTask(null, files, null, List.of("-proc:none"), null,
                    files.getJavaFileObjects(Path.of(PROGRAM)));
            CompilationUnitTree unit = task.parse().iterator().next();
            task.analyze();
            LanguageTreeTest test = new LanguageTreeTest(Trees.instance(task), unit);
            test.look();
        }
    }

    private void look() {
        due.is("imports", unit.getImports().size(), 0);
        due.is("package lines", unit.getPackageName() == null ? 0 : 1, 0);
        due.is("classes of the file", unit.getTypeDecls().size(), 1);
        scan(unit, null);
        due.is("rule 11: at most " + MOST_CLASSES + " classes", classes <= MOST_CLASSES ? 1 : 0, 1);
        for (Element method : calls.keySet()) {
            int deep = depth(method, new ArrayDeque<>());
            due.is("rule 11: depth of " + method + " is " + deep + ", at most " + MOST_DEPTH, deep <= MOST_DEPTH ? 1 : 0, 1);
        }
        due.end();
    }

    /** How deep the calls that begin at a method go; a recursion counts as deeper than any rule allows. */
    private int depth(Element method, Deque<Element> open) {
        if (open.contains(method)) {
            return 1000;
        }
        open.push(method);
        int deepest = 0;
        for (Element called : calls.getOrDefault(method, Set.of())) {
            deepest = Math.max(deepest, depth(called, open));
        }
        open.pop();
        return deepest + 1;
    }

    private void ruledOut(Tree tree, String rule) {
        due.is(rule + " at line " + line(tree), 1, 0);
    }

    private void asked(Tree tree, String rule, boolean holds) {
        due.is(rule + " at line " + line(tree), holds ? 1 : 0, 1);
    }

    private long line(Tree tree) {
        return lines.getLineNumber(trees.getSourcePositions().getStartPosition(unit, tree));
    }

    private long lastLine(Tree tree) {
        return lines.getLineNumber(trees.getSourcePositions().getEndPosition(unit, tree));
    }

    private boolean isOwn(Element element) {
        Element outermost = element;
        while (outermost != null && outermost.getKind() != ElementKind.PACKAGE) {
            if (outermost.getSimpleName().contentEquals("EveningClasses")) {
                return true;
            }
            outermost = outermost.getEnclosingElement();
        }
        return false;
    }

    private Element methodAround() {
        for (TreePath path = getCurrentPath(); path != null; path = path.getParentPath()) {
            if (path.getLeaf() instanceof MethodTree) {
                return trees.getElement(path);
            }
        }
        return null;
    }

    @Override
    public Void visitClass(ClassTree tree, Void none) {
        classes++;
        int fields = 0;
        for (Tree member : tree.getMembers()) {
            if (member instanceof VariableTree field) {
                Set<Modifier> modifiers = field.getModifiers().getFlags();
                boolean constant = modifiers.contains(Modifier.STATIC);
                asked(field, "rule 5: static fields are final", !constant || modifiers.contains(Modifier.FINAL));
                fields += constant ? 0 : 1;
            }
        }
        asked(tree, "rule 11: at most " + MOST_FIELDS + " fields", fields <= MOST_FIELDS);
        boolean outermost = getCurrentPath().getParentPath().getLeaf() == unit;
        boolean plain = tree.getKind() != Tree.Kind.CLASS || tree.getModifiers().getFlags().contains(Modifier.STATIC);
        asked(tree, "rule 1: classes inside are static", outermost || plain);
        return super.visitClass(tree, none);
    }

    @Override
    public Void visitMethod(MethodTree tree, Void none) {
        Element method = trees.getElement(getCurrentPath());
        calls.putIfAbsent(method, new LinkedHashSet<>());
        boolean ofFace = method.getModifiers().contains(Modifier.PUBLIC);
        asked(tree, "rule 1: no other method has a name of the face",
                ofFace == FACE.contains(tree.getName().toString()) || method.getKind() == ElementKind.CONSTRUCTOR);
        asked(tree, "rule 11: at most " + MOST_PARAMETERS + " parameters", tree.getParameters().size() <= MOST_PARAMETERS);
        asked(tree, "rule 11: at most " + MOST_LINES + " lines", lastLine(tree) - line(tree) < MOST_LINES);
        asked(tree, "rule 6: no equals, hashCode or toString",
                !Set.of("equals", "hashCode", "toString").contains(tree.getName().toString()));
        return super.visitMethod(tree, none);
    }

    @Override
    public Void visitVariable(VariableTree tree, Void none) {
        TypeMirror type = trees.getTypeMirror(new TreePath(getCurrentPath(), tree));
        int dimensions = 0;
        TypeMirror inner = type;
        while (inner instanceof ArrayType array) {
            inner = array.getComponentType();
            dimensions++;
        }
        boolean own = inner.toString().startsWith("EveningClasses");
        asked(tree, "rule 3: type " + type, own || TYPES.contains(inner.toString()));
        asked(tree, "rule 3: dimensions", dimensions <= 1 || (dimensions == 2 && !own && !inner.toString().contains(".")));
        return super.visitVariable(tree, none);
    }

    @Override
    public Void visitMethodInvocation(MethodInvocationTree tree, Void none) {
        Element called = trees.getElement(getCurrentPath());
        boolean objectMade = called.getKind() == ElementKind.CONSTRUCTOR;
        if (isOwn(called)) {
            Element from = methodAround();
            if (from != null) {
                calls.computeIfAbsent(from, key -> new LinkedHashSet<>()).add(called);
            }
        } else if (!objectMade) {
            String name = called.getEnclosingElement().getSimpleName() + "." + called.getSimpleName();
            asked(tree, "rule 4: " + name, LIBRARY.contains(name));
        }
        return super.visitMethodInvocation(tree, none);
    }

    @Override
    public Void visitNewClass(NewClassTree tree, Void none) {
        asked(tree, "objects are made in constructors", isInConstructor());
        asked(tree, "rule 4: own classes", isOwn(trees.getElement(getCurrentPath())));
        return super.visitNewClass(tree, none);
    }

    @Override
    public Void visitNewArray(NewArrayTree tree, Void none) {
        asked(tree, "arrays are made in constructors", isInConstructor());
        return super.visitNewArray(tree, none);
    }

    private boolean isInConstructor() {
        Element around = methodAround();
        return around == null || around.getKind() == ElementKind.CONSTRUCTOR;
    }

    @Override
    public Void visitBinary(BinaryTree tree, Void none) {
        TypeMirror type = trees.getTypeMirror(getCurrentPath());
        asked(tree, "rule 10: texts are not joined by +", !type.toString().equals("java.lang.String"));
        TypeMirror left = trees.getTypeMirror(new TreePath(getCurrentPath(), tree.getLeftOperand()));
        boolean equality = tree.getKind() == Tree.Kind.EQUAL_TO || tree.getKind() == Tree.Kind.NOT_EQUAL_TO;
        asked(tree, "rule 6: no == between texts", !equality || !left.toString().startsWith("java.lang."));
        boolean divides = tree.getKind() == Tree.Kind.DIVIDE || tree.getKind() == Tree.Kind.REMAINDER;
        asked(tree, "rule 7: the one division of floats", !divides || left.toString().equals("float"));
        return super.visitBinary(tree, none);
    }

    @Override
    public Void visitCompoundAssignment(CompoundAssignmentTree tree, Void none) {
        TypeMirror type = trees.getTypeMirror(getCurrentPath());
        asked(tree, "rule 10: texts are not joined by +=", !type.toString().equals("java.lang.String"));
        boolean divides = tree.getKind() == Tree.Kind.DIVIDE_ASSIGNMENT || tree.getKind() == Tree.Kind.REMAINDER_ASSIGNMENT;
        asked(tree, "rule 7: no division", !divides);
        return super.visitCompoundAssignment(tree, none);
    }

    @Override
    public Void visitTypeCast(TypeCastTree tree, Void none) {
        asked(tree, "rule 7: casts between numbers alone", TYPES.contains(tree.getType().toString()));
        return super.visitTypeCast(tree, none);
    }

    @Override
    public Void visitLambdaExpression(LambdaExpressionTree tree, Void none) {
        ruledOut(tree, "rule 2: lambda");
        return super.visitLambdaExpression(tree, none);
    }

    @Override
    public Void visitMemberReference(MemberReferenceTree tree, Void none) {
        ruledOut(tree, "rule 2: method reference");
        return super.visitMemberReference(tree, none);
    }

    @Override
    public Void visitTry(TryTree tree, Void none) {
        ruledOut(tree, "rule 6: try");
        return super.visitTry(tree, none);
    }

    @Override
    public Void visitThrow(ThrowTree tree, Void none) {
        ruledOut(tree, "rule 6: the document names no exception");
        return super.visitThrow(tree, none);
    }

    @Override
    public Void visitSynchronized(SynchronizedTree tree, Void none) {
        ruledOut(tree, "rule 6: synchronized");
        return super.visitSynchronized(tree, none);
    }

    @Override
    public Void visitAssert(AssertTree tree, Void none) {
        ruledOut(tree, "rule 6: assert");
        return super.visitAssert(tree, none);
    }
}
