import com.sun.source.tree.AssignmentTree;
import com.sun.source.tree.BinaryTree;
import com.sun.source.tree.CompilationUnitTree;
import com.sun.source.tree.EnhancedForLoopTree;
import com.sun.source.tree.ExpressionTree;
import com.sun.source.tree.IdentifierTree;
import com.sun.source.tree.MemberSelectTree;
import com.sun.source.tree.MethodInvocationTree;
import com.sun.source.tree.MethodTree;
import com.sun.source.tree.NewClassTree;
import com.sun.source.tree.Tree;
import com.sun.source.tree.VariableTree;
import com.sun.source.util.JavacTask;
import com.sun.source.util.TreePath;
import com.sun.source.util.TreePathScanner;
import com.sun.source.util.Trees;
import java.io.File;
import java.util.ArrayList;
import java.util.EnumSet;
import java.util.LinkedHashMap;
import java.util.LinkedHashSet;
import java.util.List;
import java.util.Map;
import java.util.Set;
import java.util.TreeSet;
import javax.lang.model.element.Element;
import javax.lang.model.element.ElementKind;
import javax.lang.model.element.Modifier;
import javax.lang.model.element.TypeElement;
import javax.lang.model.element.VariableElement;
import javax.lang.model.type.TypeMirror;
import javax.tools.JavaCompiler;
import javax.tools.StandardJavaFileManager;
import javax.tools.ToolProvider;

/**
 * Reads the class as the compiler does, and holds it against the rules of ../shared/LANGUAGE.md that tell which library,
 * which types and which kinds of statements it keeps to, and how deep its calls go. Runs in the project's folder.
 */
public final class SourceTest extends TreePathScanner<Void, Void> {
    private static final int DEEPEST = 8;
    private static final Check check = new Check();

    /** What rule 4 leaves of the library, as far as this class may ever want it. */
    private static final Set<String> LIBRARY = Set.of(
        "String.length()", "String.charAt(int)", "String.isEmpty()", "String.equals(java.lang.Object)", "String.indexOf(int)",
        "String.substring(int)", "String.substring(int,int)", "String.toCharArray()",
        "StringBuilder.append(char)", "StringBuilder.append(java.lang.String)", "StringBuilder.append(int)",
        "StringBuilder.charAt(int)", "StringBuilder.setCharAt(int,char)", "StringBuilder.setLength(int)",
        "StringBuilder.deleteCharAt(int)", "StringBuilder.reverse()", "StringBuilder.length()", "StringBuilder.toString()",
        "ArrayList.add(E)", "ArrayList.add(int,E)", "ArrayList.get(int)", "ArrayList.set(int,E)", "ArrayList.remove(int)",
        "ArrayList.size()", "ArrayList.isEmpty()", "ArrayList.clear()",
        "Math.max(int,int)", "Math.min(int,int)", "Math.abs(int)", "Math.floorDiv(int,int)", "Math.floorMod(int,int)",
        "Arrays.fill(int[],int)", "Arrays.copyOf(int[],int)", "Arrays.copyOfRange(int[],int,int)",
        "System.arraycopy(java.lang.Object,int,java.lang.Object,int,int)");
    private static final Set<String> MADE = Set.of("StringBuilder", "ArrayList");
    private static final EnumSet<Tree.Kind> BANNED = EnumSet.of(Tree.Kind.LAMBDA_EXPRESSION, Tree.Kind.MEMBER_REFERENCE,
        Tree.Kind.THROW, Tree.Kind.TRY, Tree.Kind.CATCH, Tree.Kind.SYNCHRONIZED, Tree.Kind.ASSERT, Tree.Kind.ANNOTATION,
        Tree.Kind.SWITCH_EXPRESSION, Tree.Kind.BINDING_PATTERN);

    private final Trees trees;
    private final CompilationUnitTree unit;
    private final Map<String, Set<String>> calls = new LinkedHashMap<>();
    private String inside = "";
    private int classes = 0;

    private SourceTest(Trees trees, CompilationUnitTree unit) {
        this.trees = trees;
        this.unit = unit;
    }

    public static void main(String[] args) throws Exception {
        JavaCompiler compiler = ToolProvider.getSystemJavaCompiler();
        StandardJavaFileManager files = compiler.getStandardFileManager(null, null, null);
        JavacTask task = (JavacTask) compiler.getTask(null, files, null, List.of("-proc:none"), null,
            files.getJavaFileObjects(new File("src/main/java/LoanBook.java")));
        List<CompilationUnitTree> units = new ArrayList<>();
        task.parse().forEach(units::add);
        task.analyze();
        check.due("how many files", units.size(), 1);
        SourceTest source = new SourceTest(Trees.instance(task), units.get(0));
        source.scan(units.get(0), null);
        source.depths();
        check.due("some twelve classes", source.classes <= 12 ? 1 : 0, 1);
        check.close();
    }

    private void holds(String rule, String what, boolean isSo) {
        check.about("rule " + rule);
        check.due(what + " in " + inside, isSo ? 1 : 0, 1);
    }

    private Element elementOf(Tree tree) {
        return trees.getElement(new TreePath(getCurrentPath(), tree));
    }

    private String typeOf(ExpressionTree tree) {
        return String.valueOf(trees.getTypeMirror(new TreePath(getCurrentPath(), tree)));
    }

    @Override
    public Void scan(Tree tree, Void nothing) {
        if (tree != null) {
            holds("2, 6", tree.getKind().toString(), !BANNED.contains(tree.getKind()));
        }
        return super.scan(tree, nothing);
    }

    @Override
    public Void visitClass(com.sun.source.tree.ClassTree tree, Void nothing) {
        classes++;
        String outer = inside;
        inside = "class " + tree.getSimpleName();
        Set<Modifier> modifiers = tree.getModifiers().getFlags();
        boolean isInside = getCurrentPath().getParentPath().getLeaf().getKind() == Tree.Kind.CLASS;
        holds("1", "public", isInside != modifiers.contains(Modifier.PUBLIC));
        holds("2", "static", isInside == modifiers.contains(Modifier.STATIC));
        int fields = 0;
        for (Tree member : tree.getMembers()) {
            boolean isField = member instanceof VariableTree;
            fields += isField && !((VariableTree) member).getModifiers().getFlags().contains(Modifier.STATIC) ? 1 : 0;
            holds("5", "a static block", member.getKind() != Tree.Kind.BLOCK);
        }
        holds("11", "some twenty fields", fields <= 20);
        super.visitClass(tree, nothing);
        inside = outer;
        return null;
    }

    @Override
    public Void visitMethod(MethodTree tree, Void nothing) {
        String outer = inside;
        inside = nameOf(elementOf(tree));
        calls.put(inside, new LinkedHashSet<>());
        long first = unit.getLineMap().getLineNumber(trees.getSourcePositions().getStartPosition(unit, tree));
        long last = unit.getLineMap().getLineNumber(trees.getSourcePositions().getEndPosition(unit, tree));
        holds("11", "some sixty lines", last - first < 60);
        holds("11", "seven parameters", tree.getParameters().size() <= 7);
        holds("6", "throws", tree.getThrows().isEmpty());
        if (tree.getReturnType() != null) {
            allowed(trees.getTypeMirror(new TreePath(getCurrentPath(), tree.getReturnType())), "what it answers");
        }
        super.visitMethod(tree, nothing);
        inside = outer;
        return null;
    }

    @Override
    public Void visitVariable(VariableTree tree, Void nothing) {
        VariableElement variable = (VariableElement) elementOf(tree);
        allowed(variable.asType(), tree.getName().toString());
        Set<Modifier> modifiers = variable.getModifiers();
        if (modifiers.contains(Modifier.STATIC)) {
            holds("5", tree.getName() + " final", modifiers.contains(Modifier.FINAL));
            holds("5", tree.getName() + " a constant", variable.getConstantValue() != null);
        }
        return super.visitVariable(tree, nothing);
    }

    /** Numbers, booleans, texts, rows of numbers, own classes, and lists of these. */
    private void allowed(TypeMirror type, String what) {
        String name = type.toString().replace("java.util.ArrayList<", "<").replace("java.util.List<", "<");
        boolean isPlain = name.matches("(int|long|short|byte|char|boolean)(\\[\\]){0,2}|void");
        boolean isText = name.equals("java.lang.String") || name.equals("java.lang.StringBuilder");
        boolean isOwn = name.matches("<?LoanBook\\.\\w+>?|<java\\.lang\\.Integer>");
        holds("3", what + " of type " + type, isPlain || isText || isOwn);
    }

    @Override
    public Void visitMethodInvocation(MethodInvocationTree tree, Void nothing) {
        called(elementOf(tree.getMethodSelect()));
        return super.visitMethodInvocation(tree, nothing);
    }

    @Override
    public Void visitNewClass(NewClassTree tree, Void nothing) {
        Element made = elementOf(tree);
        holds("2", "a class without a name", tree.getClassBody() == null);
        holds("4", "new " + made.getEnclosingElement(), isOwn(made) || MADE.contains(classOf(made)));
        called(made);
        return super.visitNewClass(tree, nothing);
    }

    private void called(Element method) {
        boolean isMaker = method.getKind() == ElementKind.CONSTRUCTOR;
        holds("4", nameOf(method), isMaker || isOwn(method) || LIBRARY.contains(nameOf(method)));
        if (calls.containsKey(inside)) {
            calls.get(inside).add(nameOf(method));
        }
    }

    private static String classOf(Element member) {
        return member.getEnclosingElement().getSimpleName().toString();
    }

    private static String nameOf(Element method) {
        return classOf(method) + "." + method;
    }

    private static boolean isOwn(Element member) {
        return ((TypeElement) member.getEnclosingElement()).getQualifiedName().toString().startsWith("LoanBook");
    }

    @Override
    public Void visitBinary(BinaryTree tree, Void nothing) {
        String left = typeOf(tree.getLeftOperand());
        String right = typeOf(tree.getRightOperand());
        if (tree.getKind() == Tree.Kind.PLUS) {
            holds("10", "texts joined by +: " + tree, !left.endsWith("String") && !right.endsWith("String"));
        }
        boolean compares = tree.getKind() == Tree.Kind.EQUAL_TO || tree.getKind() == Tree.Kind.NOT_EQUAL_TO;
        if (compares && !left.contains("null") && !right.contains("null")) {
            holds("6", "texts compared by ==: " + tree, !left.endsWith("String") && !left.endsWith("Integer"));
        }
        return super.visitBinary(tree, nothing);
    }

    @Override
    public Void visitEnhancedForLoop(EnhancedForLoopTree tree, Void nothing) {
        holds("12", "a list gone through with its iterator", typeOf(tree.getExpression()).endsWith("[]"));
        return super.visitEnhancedForLoop(tree, nothing);
    }

    @Override
    public Void visitAssignment(AssignmentTree tree, Void nothing) {
        Element into = elementOf(tree.getVariable());
        boolean isStatic = into instanceof VariableElement && into.getModifiers().contains(Modifier.STATIC);
        holds("5", "a static field told anew: " + tree, !isStatic);
        return super.visitAssignment(tree, nothing);
    }

    @Override
    public Void visitMemberSelect(MemberSelectTree tree, Void nothing) {
        holds("6", tree.toString(), !tree.getIdentifier().contentEquals("class"));
        return super.visitMemberSelect(tree, nothing);
    }

    @Override
    public Void visitIdentifier(IdentifierTree tree, Void nothing) {
        holds("6, 13", tree.toString(), !Set.of("Object", "Thread", "Runtime", "Random").contains(tree.toString()));
        return super.visitIdentifier(tree, nothing);
    }

    // ---- how deep calls go: there is no recursion, so that each chain of calls has an end ----

    private void depths() {
        inside = "the class";
        check.due("methods were found", calls.size() > 100 ? 1 : 0, 1);
        for (String method : calls.keySet()) {
            holds("11", "calls eight deep from " + method, depth(method, new TreeSet<>()) <= DEEPEST);
        }
    }

    private int depth(String method, TreeSet<String> open) {
        if (!open.add(method)) {
            holds("8", "a recursion through " + method, false);
            return 1;
        }
        int below = 0;
        for (String next : calls.getOrDefault(method, Set.of())) {
            below = Math.max(below, depth(next, open));
        }
        open.remove(method);
        return below + 1;
    }
}
