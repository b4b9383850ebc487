import com.sun.source.tree.ArrayAccessTree;
import com.sun.source.tree.AssignmentTree;
import com.sun.source.tree.BinaryTree;
import com.sun.source.tree.ClassTree;
import com.sun.source.tree.CompilationUnitTree;
import com.sun.source.tree.CompoundAssignmentTree;
import com.sun.source.tree.DoWhileLoopTree;
import com.sun.source.tree.EnhancedForLoopTree;
import com.sun.source.tree.ExpressionTree;
import com.sun.source.tree.ForLoopTree;
import com.sun.source.tree.ImportTree;
import com.sun.source.tree.LiteralTree;
import com.sun.source.tree.MethodInvocationTree;
import com.sun.source.tree.MethodTree;
import com.sun.source.tree.NewArrayTree;
import com.sun.source.tree.NewClassTree;
import com.sun.source.tree.ThrowTree;
import com.sun.source.tree.Tree;
import com.sun.source.tree.UnaryTree;
import com.sun.source.tree.VariableTree;
import com.sun.source.tree.WhileLoopTree;
import com.sun.source.util.JavacTask;
import com.sun.source.util.TreePath;
import com.sun.source.util.TreePathScanner;
import com.sun.source.util.Trees;
import java.io.IOException;
import java.nio.file.Path;
import java.util.List;
import java.util.Map;
import java.util.Set;
import java.util.TreeMap;
import java.util.TreeSet;
import javax.lang.model.element.Element;
import javax.lang.model.element.ElementKind;
import javax.lang.model.element.ExecutableElement;
import javax.lang.model.element.Modifier;
import javax.lang.model.element.VariableElement;
import javax.lang.model.type.TypeMirror;
import javax.tools.JavaCompiler;
import javax.tools.StandardJavaFileManager;
import javax.tools.ToolProvider;

/** Those rules of LANGUAGE.md that can be read off the source, with its names and types as the compiler finds them. */
public final class LanguageTest extends TreePathScanner<Void, Void> {
    private static final Path SOURCE = Path.of("src/main/java/Weaveword.java");
    private static final int DEEPEST = 8, LONGEST = 60, MOST_PARAMETERS = 7, MOST_CLASSES = 12, MOST_FIELDS = 20;

    /** All that the class uses of the library; LANGUAGE.md has more, and what is new here is looked up there first. */
    private static final Set<String> LIBRARY = Set.of("java.util.ArrayList.ArrayList", "java.util.ArrayList.add", "java.util.ArrayList.get",
        "java.util.ArrayList.size", "java.lang.Integer.bitCount", "java.lang.Object.Object");
    private static final Set<String> TYPES = Set.of("int", "long", "short", "byte", "char", "boolean", "void", "int[]", "boolean[]",
        "java.lang.String", "java.util.ArrayList<Weaveword.Version>");
    private static final Set<String> THROWN = Set.of("java.lang.IllegalStateException", "java.lang.IllegalArgumentException",
        "java.lang.IndexOutOfBoundsException");
    private static final Set<Tree.Kind> FORBIDDEN = Set.of(Tree.Kind.TRY, Tree.Kind.CATCH, Tree.Kind.SYNCHRONIZED, Tree.Kind.ASSERT,
        Tree.Kind.LAMBDA_EXPRESSION, Tree.Kind.MEMBER_REFERENCE, Tree.Kind.TYPE_CAST, Tree.Kind.ANNOTATION, Tree.Kind.SWITCH_EXPRESSION,
        Tree.Kind.INSTANCE_OF, Tree.Kind.PACKAGE, Tree.Kind.ANNOTATION_TYPE, Tree.Kind.UNION_TYPE, Tree.Kind.YIELD,
        Tree.Kind.DOUBLE_LITERAL, Tree.Kind.FLOAT_LITERAL);

    private final Trees trees;
    private final CompilationUnitTree unit;
    /** By a method of the class: those that it calls, the library's too. */
    private final Map<String, Set<String>> calls = new TreeMap<>();
    private final Set<String> face = new TreeSet<>();
    private int classes = 0;

    private LanguageTest(Trees trees, CompilationUnitTree unit) {
        this.trees = trees;
        this.unit = unit;
    }

    public static void main(String[] args) throws IOException {
        JavaCompiler compiler = ToolProvider.getSystemJavaCompiler();
        try (StandardJavaFileManager files = compiler.getStandardFileManager(null, null, null)) {
            JavacTask task = (JavacTask) compiler.getTask(null, files, null, List.of("-proc:none"), null, files.getJavaFileObjects(SOURCE));
            CompilationUnitTree unit = task.parse().iterator().next();
            task.analyze();
            LanguageTest test = new LanguageTest(Trees.instance(task), unit);
            test.scan(unit, null);
            test.whole();
        }
        Check.end();
    }

    // ---- the whole class

    private void whole() {
        Check.yes("rule 11: some twelve classes", classes <= MOST_CLASSES);
        Check.same("the calls of the face, and its constructor", face.size(), 33);
        Map<String, Integer> depths = new TreeMap<>();
        for (String method : calls.keySet()) {
            depth(method, depths, new TreeSet<>());
        }
        for (String method : face) {
            Check.yes("rule 11: " + method + " goes " + depths.get(method) + " deep", depths.get(method) <= DEEPEST);
        }
    }

    /** How many calls stand open at once in a method, its own included; those of the library count, too. */
    private int depth(String method, Map<String, Integer> depths, Set<String> open) {
        if (!depths.containsKey(method)) {
            open.add(method);
            int deepest = 0;
            for (String called : calls.getOrDefault(method, Set.of())) {
                Check.no("rule 8: no recursion of " + called, open.contains(called));
                deepest = Math.max(deepest, open.contains(called) ? 0 : depth(called, depths, open));
            }
            open.remove(method);
            depths.put(method, 1 + deepest);
        }
        return depths.get(method);
    }

    // ---- where a tree stands

    private String at(Tree tree) {
        long place = trees.getSourcePositions().getStartPosition(unit, tree);
        return "line " + (place < 0 ? 0 : unit.getLineMap().getLineNumber(place)) + ": ";
    }

    private String here() {
        return at(getCurrentPath().getLeaf());
    }

    private TypeMirror type(Tree tree) {
        return trees.getTypeMirror(new TreePath(getCurrentPath(), tree));
    }

    private Element element(Tree tree) {
        return trees.getElement(new TreePath(getCurrentPath(), tree));
    }

    private boolean isWithin(Tree.Kind... kinds) {
        for (TreePath p = getCurrentPath(); p != null; p = p.getParentPath()) {
            if (List.of(kinds).contains(p.getLeaf().getKind())) {
                return true;
            }
        }
        return false;
    }

    /** The method in which the current tree stands; a field's initialiser belongs to the constructor. */
    private String inMethod() {
        for (TreePath p = getCurrentPath(); p != null; p = p.getParentPath()) {
            Element e = trees.getElement(p);
            if (p.getLeaf() instanceof MethodTree) {
                return name(e);
            }
            if (p.getLeaf() instanceof ClassTree) {
                return e + ".<init>";
            }
        }
        return "";
    }

    private static String name(Element method) {
        boolean constructor = method.getKind() == ElementKind.CONSTRUCTOR;
        return method.getEnclosingElement() + "." + (constructor ? "<init>" : method.toString());
    }

    private static boolean isKept(String type) {
        String bare = type.endsWith("[]") ? type.substring(0, type.length() - 2) : type;
        return TYPES.contains(type) || bare.startsWith("Weaveword.");
    }

    private static boolean isOwn(Element e) {
        return e != null && (e.toString().startsWith("Weaveword") || isOwn(e.getEnclosingElement()));
    }

    // ---- each tree

    @Override
    public Void scan(Tree tree, Void v) {
        if (tree != null && FORBIDDEN.contains(tree.getKind())) {
            Check.same(at(tree) + "no " + tree.getKind(), 1, 0);
        }
        return super.scan(tree, v);
    }

    @Override
    public Void visitImport(ImportTree tree, Void v) {
        Check.same("rule 4: what is imported", tree.getQualifiedIdentifier().toString(), "java.util.ArrayList");
        return super.visitImport(tree, v);
    }

    @Override
    public Void visitClass(ClassTree tree, Void v) {
        classes++;
        boolean inside = trees.getElement(getCurrentPath()).getEnclosingElement().getKind() == ElementKind.CLASS;
        Set<Modifier> due = inside ? Set.of(Modifier.PRIVATE, Modifier.STATIC, Modifier.FINAL) : Set.of(Modifier.PUBLIC, Modifier.FINAL);
        Check.yes("rules 1 and 2: " + here() + tree.getSimpleName(), tree.getModifiers().getFlags().equals(due));
        int fields = 0;
        for (Tree member : tree.getMembers()) {
            Check.no("rule 5: " + at(member) + "no initialiser block", member.getKind() == Tree.Kind.BLOCK);
            fields += member instanceof VariableTree f && !f.getModifiers().getFlags().contains(Modifier.STATIC) ? 1 : 0;
        }
        Check.yes("rule 11: some twenty fields: " + tree.getSimpleName(), fields <= MOST_FIELDS);
        return super.visitClass(tree, v);
    }

    @Override
    public Void visitMethod(MethodTree tree, Void v) {
        ExecutableElement method = (ExecutableElement) trees.getElement(getCurrentPath());
        calls.computeIfAbsent(name(method), n -> new TreeSet<>());
        Check.yes("rule 3: " + here() + method.getReturnType(), isKept(method.getReturnType().toString()));
        if (tree.getModifiers().getFlags().contains(Modifier.PUBLIC)) {
            face.add(name(method));
        }
        Check.yes("rule 11: " + here() + "at most seven parameters", tree.getParameters().size() <= MOST_PARAMETERS);
        long end = trees.getSourcePositions().getEndPosition(unit, tree);
        long start = trees.getSourcePositions().getStartPosition(unit, tree);
        if (end >= 0) {
            long lines = unit.getLineMap().getLineNumber(end) - unit.getLineMap().getLineNumber(start) + 1;
            Check.yes("rule 11: " + here() + tree.getName() + " has " + lines + " lines", lines <= LONGEST);
        }
        return super.visitMethod(tree, v);
    }

    @Override
    public Void visitVariable(VariableTree tree, Void v) {
        Element variable = trees.getElement(getCurrentPath());
        Check.yes("rule 3: " + here() + variable.asType(), isKept(variable.asType().toString()));
        if (variable.getModifiers().contains(Modifier.STATIC)) {
            boolean constant = ((VariableElement) variable).getConstantValue() != null;
            boolean written = tree.getInitializer() instanceof NewArrayTree a && a.getDimensions().isEmpty();
            Check.yes("rule 5: " + here() + tree.getName(), variable.getModifiers().contains(Modifier.FINAL) && (constant || written));
        }
        return super.visitVariable(tree, v);
    }

    @Override
    public Void visitMethodInvocation(MethodInvocationTree tree, Void v) {
        called(element(tree.getMethodSelect()));
        return super.visitMethodInvocation(tree, v);
    }

    @Override
    public Void visitNewClass(NewClassTree tree, Void v) {
        Element constructor = trees.getElement(getCurrentPath());
        boolean thrown = getCurrentPath().getParentPath().getLeaf() instanceof ThrowTree;
        if (!thrown) {
            called(constructor);
        }
        boolean looped = isWithin(Tree.Kind.FOR_LOOP, Tree.Kind.WHILE_LOOP, Tree.Kind.DO_WHILE_LOOP) && !inMethod().endsWith("<init>");
        Check.no("rule 12: " + here() + "made in a loop", looped);
        return super.visitNewClass(tree, v);
    }

    private void called(Element method) {
        String full = method.getEnclosingElement() + "." + method.getSimpleName();
        String plain = full.replace("<init>", method.getEnclosingElement().getSimpleName()).replaceAll("<[^>]*>", "");
        Check.yes("rule 4: " + here() + plain, isOwn(method) || LIBRARY.contains(plain));
        if (!plain.equals("java.lang.Object.Object")) {
            calls.computeIfAbsent(inMethod(), n -> new TreeSet<>()).add(isOwn(method) ? name(method) : plain);
        }
    }

    @Override
    public Void visitThrow(ThrowTree tree, Void v) {
        boolean plain = tree.getExpression() instanceof NewClassTree made && THROWN.contains(type(made).toString())
            && made.getArguments().size() == 1 && made.getArguments().get(0) instanceof LiteralTree;
        Check.yes("rule 6: " + here() + "throws a new exception with a written text", plain);
        Check.no("rule 6: " + here() + "no throw in a constructor", inMethod().endsWith("<init>"));
        return super.visitThrow(tree, v);
    }

    @Override
    public Void visitBinary(BinaryTree tree, Void v) {
        String left = String.valueOf(type(tree.getLeftOperand()));
        String right = String.valueOf(type(tree.getRightOperand()));
        for (String type : new String[] {left, right}) {
            Check.no("rules 6 and 10: " + here() + tree, type.equals("java.lang.String") || type.equals("java.lang.Integer"));
        }
        if (tree.getKind() == Tree.Kind.DIVIDE || tree.getKind() == Tree.Kind.REMAINDER) {
            Check.yes("rule 7: " + here() + "divides by a constant", constant(tree.getRightOperand()) > 0);
        }
        return super.visitBinary(tree, v);
    }

    @Override
    public Void visitCompoundAssignment(CompoundAssignmentTree tree, Void v) {
        boolean divides = tree.getKind() == Tree.Kind.DIVIDE_ASSIGNMENT || tree.getKind() == Tree.Kind.REMAINDER_ASSIGNMENT;
        Check.yes("rule 7: " + here() + "divides by a constant", !divides || constant(tree.getExpression()) > 0);
        notOfConstantRow(tree.getVariable());
        return super.visitCompoundAssignment(tree, v);
    }

    @Override
    public Void visitAssignment(AssignmentTree tree, Void v) {
        notOfConstantRow(tree.getVariable());
        return super.visitAssignment(tree, v);
    }

    @Override
    public Void visitUnary(UnaryTree tree, Void v) {
        notOfConstantRow(tree.getKind() == Tree.Kind.LOGICAL_COMPLEMENT ? null : tree.getExpression());
        return super.visitUnary(tree, v);
    }

    private void notOfConstantRow(ExpressionTree changed) {
        if (changed instanceof ArrayAccessTree access) {
            Element row = trees.getElement(new TreePath(new TreePath(getCurrentPath(), access), access.getExpression()));
            Check.no("rule 5: " + here() + "changes a constant row", row != null && row.getModifiers().contains(Modifier.STATIC));
        }
    }

    /** The number that a constant or a written number has; -1 for all else. */
    private long constant(ExpressionTree tree) {
        Object value = tree instanceof LiteralTree literal ? literal.getValue() : null;
        if (element(tree) instanceof VariableElement variable) {
            value = variable.getConstantValue();
        }
        return value instanceof Number number ? number.longValue() : -1;
    }

    /** A row has a constant length, that of another row, or one that was tested against 0. */
    @Override
    public Void visitNewArray(NewArrayTree tree, Void v) {
        for (ExpressionTree length : tree.getDimensions()) {
            String text = length.toString();
            boolean sum = length instanceof BinaryTree b && constantOf(b) > 0;
            boolean tested = text.matches("(\\w+) < 0 \\? 0 : \\1");
            Check.yes("rule 7: " + here() + "a length", constant(length) > 0 || sum || text.endsWith(".length") || tested);
        }
        return super.visitNewArray(tree, v);
    }

    private long constantOf(BinaryTree sum) {
        TreePath path = new TreePath(getCurrentPath(), sum);
        Object left = trees.getElement(new TreePath(path, sum.getLeftOperand())) instanceof VariableElement e ? e.getConstantValue() : null;
        boolean adds = sum.getKind() == Tree.Kind.PLUS && sum.getRightOperand() instanceof LiteralTree;
        return adds && left instanceof Number number ? number.longValue() : -1;
    }

    // ---- loops: each has a condition, and tests something

    @Override
    public Void visitForLoop(ForLoopTree tree, Void v) {
        Check.yes("rule 9: " + here() + "its end can be seen", tree.getCondition() != null && !(tree.getCondition() instanceof LiteralTree));
        Check.yes("rule 9: " + here() + "it goes on", !tree.getUpdate().isEmpty());
        return super.visitForLoop(tree, v);
    }

    @Override
    public Void visitWhileLoop(WhileLoopTree tree, Void v) {
        Check.no("rule 9: " + here() + "its end can be seen", tree.getCondition().toString().contains("true"));
        return super.visitWhileLoop(tree, v);
    }

    @Override
    public Void visitDoWhileLoop(DoWhileLoopTree tree, Void v) {
        Check.no("rule 9: " + here() + "its end can be seen", tree.getCondition().toString().contains("true"));
        return super.visitDoWhileLoop(tree, v);
    }

    @Override
    public Void visitEnhancedForLoop(EnhancedForLoopTree tree, Void v) {
        Check.yes("rule 12: " + here() + "a list is gone through by index", type(tree.getExpression()).toString().endsWith("[]"));
        return super.visitEnhancedForLoop(tree, v);
    }
}
