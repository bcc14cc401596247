import com.sun.source.tree.AssertTree;
import com.sun.source.tree.BlockTree;
import com.sun.source.tree.ClassTree;
import com.sun.source.tree.CompilationUnitTree;
import com.sun.source.tree.DoWhileLoopTree;
import com.sun.source.tree.ExpressionTree;
import com.sun.source.tree.ForLoopTree;
import com.sun.source.tree.LambdaExpressionTree;
import com.sun.source.tree.LiteralTree;
import com.sun.source.tree.MemberReferenceTree;
import com.sun.source.tree.MethodInvocationTree;
import com.sun.source.tree.MethodTree;
import com.sun.source.tree.NewClassTree;
import com.sun.source.tree.SynchronizedTree;
import com.sun.source.tree.ThrowTree;
import com.sun.source.tree.Tree;
import com.sun.source.tree.TryTree;
import com.sun.source.tree.TypeCastTree;
import com.sun.source.tree.VariableTree;
import com.sun.source.tree.WhileLoopTree;
import com.sun.source.util.JavacTask;
import com.sun.source.util.SourcePositions;
import com.sun.source.util.TreePath;
import com.sun.source.util.TreePathScanner;
import com.sun.source.util.Trees;
import java.io.IOException;
import java.nio.file.Files;
import java.nio.file.Path;
import java.util.HashMap;
import java.util.HashSet;
import java.util.LinkedHashMap;
import java.util.Map;
import java.util.Set;
import java.util.TreeSet;
import javax.lang.model.element.Element;
import javax.lang.model.element.Modifier;
import javax.lang.model.element.TypeElement;
import javax.lang.model.type.TypeMirror;
import javax.tools.JavaCompiler;
import javax.tools.StandardJavaFileManager;
import javax.tools.ToolProvider;

/**
 * The rules of LANGUAGE.md that can be seen in the source; rule 1 has FaceTest. Where a rule leaves more
 * than the class uses (try, while, doubles), the test refuses it all the same: what then comes new must
 * be looked at by hand first.
 */
public final class LanguageTest extends TreePathScanner<Void, Void> {
    private static final Path SOURCE = Path.of("src/main/java/VectorBench.java");
    private static final int MOST_LINES = 60;
    private static final int MOST_PARAMETERS = 7;
    private static final int MOST_CALLS_DEEP = 8;
    private static final int MOST_CLASSES = 12;
    private static final int MOST_FIELDS = 20;

    private static final Set<String> TYPES = Set.of("void", "int", "long", "boolean", "int[]");
    private static final Set<String> EXCEPTIONS = Set.of("IllegalStateException", "IllegalArgumentException",
        "IndexOutOfBoundsException", "ArithmeticException", "UnsupportedOperationException",
        "NoSuchElementException", "RuntimeException");
    private static final Set<String> IMPORTS = Set.of("java.util.ArrayList", "java.util.List", "java.util.Arrays");
    private static final Set<String> LIBRARY = Set.of("java.lang.Object.<init>",
        "java.util.ArrayList.<init>", "java.util.ArrayList.add", "java.util.ArrayList.get",
        "java.util.ArrayList.size", "java.lang.System.arraycopy", "java.util.Arrays.copyOf",
        "java.util.Arrays.copyOfRange", "java.util.Arrays.fill", "java.lang.Math.max", "java.lang.Math.min");

    private final Trees trees;
    private final SourcePositions positions;
    private final CompilationUnitTree unit;
    /** Each method with those that it calls. */
    private final Map<Element, Set<Element>> calls = new LinkedHashMap<>();
    private final Map<Element, Integer> depths = new HashMap<>();
    private int classes = 0;

    private LanguageTest(Trees trees, CompilationUnitTree unit) {
        this.trees = trees;
        this.positions = trees.getSourcePositions();
        this.unit = unit;
    }

    public static void main(String[] args) throws IOException {
        JavaCompiler compiler = ToolProvider.getSystemJavaCompiler();
        try (StandardJavaFileManager files = compiler.getStandardFileManager(null, null, null)) {
            JavacTask task = (JavacTask) compiler.getTask(null, files, null, null, null,
                files.getJavaFileObjects(SOURCE));
            CompilationUnitTree unit = task.parse().iterator().next();
            task.analyze();
            new LanguageTest(Trees.instance(task), unit).check();
        }
        Check.end();
    }

    private void check() throws IOException {
        refuse(unit, "a package line", unit.getPackageName() != null, "the head");
        Check.same("classes at the top", unit.getTypeDecls().size(), 1);
        unit.getImports().forEach(tree ->
            refuse(tree, "this import", !IMPORTS.contains(tree.getQualifiedIdentifier().toString()), "rule 4"));
        scan(unit, null);
        refuse(unit, "more than " + MOST_CLASSES + " classes", classes > MOST_CLASSES, "rule 11");
        for (Element method : calls.keySet()) {
            int depth = depth(method, new HashSet<>());
            refuse(unit, method + " with " + depth + " calls deep", depth > MOST_CALLS_DEEP, "rule 11");
        }
        boolean plain = Files.readString(SOURCE).chars().allMatch(c -> c < 256);
        Check.same("characters are 0 to 255 (rule 3)", plain, true);
    }

    private void refuse(Tree tree, String what, boolean found, String rule) {
        long line = lineOf(positions.getStartPosition(unit, tree));
        Check.same(what + " at line " + line + " (" + rule + ")", found, false);
    }

    /** What the compiler itself adds has no position; it is told as line 1. */
    private long lineOf(long position) {
        return unit.getLineMap().getLineNumber(Math.max(0, position));
    }

    /** The calls that stand open at once below and with this one; a call of the library is one too. */
    private int depth(Element method, Set<Element> open) {
        Integer known = depths.get(method);
        if (known != null) {
            return known;
        }
        if (!open.add(method)) {
            refuse(unit, "recursion of " + method, true, "rule 8");
            return 0;
        }
        int deepest = 0;
        for (Element called : calls.getOrDefault(method, Set.of())) {
            deepest = Math.max(deepest, depth(called, open));
        }
        open.remove(method);
        depths.put(method, deepest + 1);
        return deepest + 1;
    }

    private boolean own(Element element) {
        Element at = element;
        while (at != null) {
            if (at instanceof TypeElement type && type.getQualifiedName().contentEquals("VectorBench")) {
                return true;
            }
            at = at.getEnclosingElement();
        }
        return false;
    }

    private Element enclosingMethod() {
        TreePath path = getCurrentPath();
        while (path != null && !(path.getLeaf() instanceof MethodTree)) {
            path = path.getParentPath();
        }
        return path == null ? null : trees.getElement(path);
    }

    private void called(Tree tree) {
        Element element = trees.getElement(getCurrentPath());
        if (element == null) {
            refuse(tree, "a call of what is not known", true, "rule 4");
            return;
        }
        Element caller = enclosingMethod();
        if (caller != null) {
            calls.computeIfAbsent(caller, key -> new HashSet<>()).add(element);
        }
        String name = element.getEnclosingElement() + "." + element.getSimpleName();
        boolean exception = getCurrentPath().getParentPath().getLeaf() instanceof ThrowTree;
        refuse(tree, "the call " + name, !own(element) && !exception && !LIBRARY.contains(name), "rule 4");
    }

    private boolean allowed(TypeMirror type) {
        String name = type.toString();
        boolean list = name.startsWith("java.util.ArrayList<VectorBench.") && name.endsWith(">");
        return TYPES.contains(name) || name.startsWith("VectorBench.") && !name.endsWith("]") || list;
    }

    @Override
    public Void visitClass(ClassTree tree, Void nothing) {
        classes++;
        boolean inside = getCurrentPath().getParentPath().getLeaf() instanceof ClassTree;
        boolean nested = inside && tree.getModifiers().getFlags().contains(Modifier.STATIC);
        boolean top = getCurrentPath().getParentPath().getLeaf() instanceof CompilationUnitTree;
        refuse(tree, "a class that is neither the program nor static in it", !nested && !top, "rule 2");
        int fields = 0;
        for (Tree member : tree.getMembers()) {
            refuse(member, "an initialiser block", member instanceof BlockTree, "rule 5");
            if (member instanceof VariableTree field) {
                Set<Modifier> flags = field.getModifiers().getFlags();
                boolean fixed = flags.contains(Modifier.STATIC);
                fields += fixed ? 0 : 1;
                refuse(field, "a static field that is not final", fixed && !flags.contains(Modifier.FINAL), "rule 5");
                refuse(field, "a static field that is no written int",
                    fixed && !(field.getInitializer() instanceof LiteralTree), "rule 5");
            }
        }
        refuse(tree, "more than " + MOST_FIELDS + " fields", fields > MOST_FIELDS, "rule 11");
        return super.visitClass(tree, nothing);
    }

    @Override
    public Void visitMethod(MethodTree tree, Void nothing) {
        calls.computeIfAbsent(trees.getElement(getCurrentPath()), key -> new HashSet<>());
        long first = lineOf(positions.getStartPosition(unit, tree));
        long lines = lineOf(positions.getEndPosition(unit, tree)) - first + 1;
        refuse(tree, tree.getName() + " with " + lines + " lines", lines > MOST_LINES, "rule 11");
        refuse(tree, "too many parameters", tree.getParameters().size() > MOST_PARAMETERS, "rule 11");
        boolean ofObjects = Set.of("equals", "hashCode", "toString").contains(tree.getName().toString());
        refuse(tree, "a method " + tree.getName(), ofObjects, "rule 6");
        if (tree.getReturnType() != null) {
            TypeMirror type = trees.getTypeMirror(new TreePath(getCurrentPath(), tree.getReturnType()));
            refuse(tree, "the type " + type, !allowed(type), "rule 3");
        }
        return super.visitMethod(tree, nothing);
    }

    @Override
    public Void visitVariable(VariableTree tree, Void nothing) {
        TypeMirror type = trees.getTypeMirror(getCurrentPath());
        refuse(tree, "the type " + type, !allowed(type), "rule 3");
        return super.visitVariable(tree, nothing);
    }

    @Override
    public Void visitMethodInvocation(MethodInvocationTree tree, Void nothing) {
        called(tree);
        return super.visitMethodInvocation(tree, nothing);
    }

    @Override
    public Void visitNewClass(NewClassTree tree, Void nothing) {
        called(tree);
        refuse(tree, "an anonymous class", tree.getClassBody() != null, "rule 2");
        return super.visitNewClass(tree, nothing);
    }

    @Override
    public Void visitThrow(ThrowTree tree, Void nothing) {
        ExpressionTree thrown = tree.getExpression();
        boolean written = thrown instanceof NewClassTree made
            && EXCEPTIONS.contains(made.getIdentifier().toString())
            && made.getArguments().stream().allMatch(argument -> argument instanceof LiteralTree);
        refuse(tree, "a throw of something else", !written, "rule 6");
        Element method = enclosingMethod();
        refuse(tree, "a throw in a constructor",
            method == null || method.getSimpleName().contentEquals("<init>"), "rule 6");
        return super.visitThrow(tree, nothing);
    }

    @Override
    public Void visitTry(TryTree tree, Void nothing) {
        refuse(tree, "a try", true, "rule 6");
        return super.visitTry(tree, nothing);
    }

    @Override
    public Void visitSynchronized(SynchronizedTree tree, Void nothing) {
        refuse(tree, "synchronized", true, "rule 6");
        return super.visitSynchronized(tree, nothing);
    }

    @Override
    public Void visitAssert(AssertTree tree, Void nothing) {
        refuse(tree, "assert", true, "rule 6");
        return super.visitAssert(tree, nothing);
    }

    @Override
    public Void visitLambdaExpression(LambdaExpressionTree tree, Void nothing) {
        refuse(tree, "a lambda", true, "rule 2");
        return super.visitLambdaExpression(tree, nothing);
    }

    @Override
    public Void visitMemberReference(MemberReferenceTree tree, Void nothing) {
        refuse(tree, "a method reference", true, "rule 2");
        return super.visitMemberReference(tree, nothing);
    }

    @Override
    public Void visitTypeCast(TypeCastTree tree, Void nothing) {
        boolean number = Set.of("int", "long").contains(tree.getType().toString());
        refuse(tree, "a cast that can throw", !number, "rule 6");
        return super.visitTypeCast(tree, nothing);
    }

    /** A counter against a bound, one step at a time. */
    @Override
    public Void visitForLoop(ForLoopTree tree, Void nothing) {
        Set<String> counted = new TreeSet<>();
        tree.getInitializer().forEach(start -> {
            if (start instanceof VariableTree counter) {
                counted.add(counter.getName().toString());
            }
        });
        boolean seen = counted.size() == 1 && tree.getUpdate().size() == 1 && tree.getCondition() != null;
        if (seen) {
            String counter = counted.iterator().next();
            String condition = tree.getCondition().toString();
            String step = tree.getUpdate().get(0).toString().replace(";", "").trim();
            boolean up = step.equals(counter + "++") && condition.matches(counter + " <=? [\\w.]+");
            boolean down = step.equals(counter + "--") && condition.matches(counter + " >=? \\d+");
            seen = up || down;
        }
        refuse(tree, "a loop whose end can't be seen", !seen, "rule 9");
        return super.visitForLoop(tree, nothing);
    }

    @Override
    public Void visitWhileLoop(WhileLoopTree tree, Void nothing) {
        refuse(tree, "a while loop", true, "rule 9");
        return super.visitWhileLoop(tree, nothing);
    }

    @Override
    public Void visitDoWhileLoop(DoWhileLoopTree tree, Void nothing) {
        refuse(tree, "a do loop", true, "rule 9");
        return super.visitDoWhileLoop(tree, nothing);
    }
}
