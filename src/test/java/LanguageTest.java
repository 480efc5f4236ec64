import com.sun.source.tree.*;
import com.sun.source.util.JavacTask;
import com.sun.source.util.SourcePositions;
import com.sun.source.util.TreePath;
import com.sun.source.util.TreePathScanner;
import com.sun.source.util.Trees;
import java.io.File;
import java.io.IOException;
import java.util.Arrays;
import java.util.HashSet;
import java.util.List;
import java.util.Map;
import java.util.Set;
import java.util.TreeMap;
import java.util.TreeSet;
import javax.lang.model.element.Element;
import javax.lang.model.element.ElementKind;
import javax.lang.model.element.Modifier;
import javax.tools.JavaCompiler;
import javax.tools.StandardJavaFileManager;
import javax.tools.ToolProvider;

/**
 * The program as a text, beside those rules of LANGUAGE.md that a program can look at. Where the program needs less
 * than a rule allows (it catches nothing, and makes objects in constructors alone), the test holds it to the less.
 */
public final class LanguageTest extends TreePathScanner<Void, Void> {
    private static final String PROGRAM = "src/main/java/PencilWorks.java";
    private static final Set<String> LIBRARY = Set.of("Math.min", "Math.max", "Math.abs", "Integer.bitCount");
    private static final Set<String> EXCEPTIONS = Set.of("IllegalStateException", "IllegalArgumentException",
        "IndexOutOfBoundsException", "ArithmeticException", "UnsupportedOperationException", "NoSuchElementException",
        "RuntimeException");
    private static final Set<Tree.Kind> FORBIDDEN = Set.of(Tree.Kind.LAMBDA_EXPRESSION, Tree.Kind.MEMBER_REFERENCE,
        Tree.Kind.TRY, Tree.Kind.SYNCHRONIZED, Tree.Kind.ASSERT, Tree.Kind.TYPE_CAST, Tree.Kind.INSTANCE_OF,
        Tree.Kind.DIVIDE_ASSIGNMENT, Tree.Kind.REMAINDER, Tree.Kind.REMAINDER_ASSIGNMENT, Tree.Kind.ANNOTATION);
    /** The searches, which call themselves: at most 7 levels (earths) and 13 levels (lots) of two methods each. */
    private static final Set<String> SEARCHES = Set.of("Earths.choose", "Earths.chooseParts", "Blame.blameMore",
        "Blame.blameEach");

    private static int wrong = 0;

    private final CompilationUnitTree unit;
    private final Trees trees;
    private final Map<String, Set<String>> calls = new TreeMap<>();
    private int classes = 0;

    private LanguageTest(CompilationUnitTree unit, Trees trees) {
        this.unit = unit;
        this.trees = trees;
    }

    private void check(boolean holds, Tree at, String text) {
        if (!holds) {
            wrong++;
            System.out.println("line " + line(trees.getSourcePositions().getStartPosition(unit, at)) + ": " + text);
        }
    }

    private long line(long position) {
        return unit.getLineMap().getLineNumber(Math.max(position, 0));
    }

    @Override
    public Void scan(Tree tree, Void nothing) {
        check(tree == null || !FORBIDDEN.contains(tree.getKind()), tree, "the program goes without what stands here");
        return super.scan(tree, nothing);
    }

    @Override
    public Void visitCompilationUnit(CompilationUnitTree tree, Void nothing) {
        check(tree.getPackage() == null, tree, "no package line");
        check(tree.getTypeDecls().size() == 1, tree, "one class in the file");
        for (ImportTree i : tree.getImports()) {
            check(i.toString().trim().equals("import java.util.NoSuchElementException;"), i, "rule 4: " + i);
        }
        return super.visitCompilationUnit(tree, nothing);
    }

    @Override
    public Void visitClass(ClassTree tree, Void nothing) {
        classes++;
        check(classes <= 12, tree, "rule 11: some twelve classes");
        check(tree.getExtendsClause() == null && tree.getImplementsClause().isEmpty(), tree, "of no other class");
        check(getCurrentPath().getParentPath().getLeaf() == unit
            || tree.getModifiers().getFlags().contains(Modifier.STATIC), tree, "rule 2: static inside");
        int fields = 0;
        for (Tree member : tree.getMembers()) {
            check(member.getKind() != Tree.Kind.BLOCK, member, "rule 5: no initialiser block");
            if (member instanceof VariableTree) {
                Set<Modifier> flags = ((VariableTree) member).getModifiers().getFlags();
                boolean isStatic = flags.contains(Modifier.STATIC);
                fields += isStatic ? 0 : 1;
                check(!isStatic || flags.contains(Modifier.FINAL), member, "rule 5: static fields are final");
            }
        }
        check(fields <= 20, tree, "rule 11: some twenty fields");
        return super.visitClass(tree, nothing);
    }

    @Override
    public Void visitMethod(MethodTree tree, Void nothing) {
        check(tree.getParameters().size() <= 7, tree, "rule 11: seven parameters at most");
        SourcePositions at = trees.getSourcePositions();
        long first = line(at.getStartPosition(unit, tree));
        check(line(at.getEndPosition(unit, tree)) - first < 60, tree, "rule 11: some sixty lines");
        calls.putIfAbsent(name(trees.getElement(getCurrentPath())), new TreeSet<>());
        return super.visitMethod(tree, nothing);
    }

    private static String name(Element method) {
        return method.getEnclosingElement().getSimpleName() + "." + method.getSimpleName();
    }

    private MethodTree methodAround() {
        for (TreePath path = getCurrentPath(); path != null; path = path.getParentPath()) {
            if (path.getLeaf() instanceof MethodTree) {
                return (MethodTree) path.getLeaf();
            }
        }
        return null;
    }

    @Override
    public Void visitMethodInvocation(MethodInvocationTree tree, Void nothing) {
        Element called = trees.getElement(new TreePath(getCurrentPath(), tree.getMethodSelect()));
        String name = name(called);
        MethodTree around = methodAround();
        // the call of the class above, which the compiler writes into a constructor
        if (around != null && called.getKind() == ElementKind.METHOD) {
            if (called.getEnclosingElement().toString().startsWith("PencilWorks")) {
                calls.computeIfAbsent(name(trees.getElement(trees.getPath(unit, around))), k -> new TreeSet<>()).add(name);
            } else {
                check(LIBRARY.contains(name), tree, "rule 4: not of the library, " + name);
            }
        }
        return super.visitMethodInvocation(tree, nothing);
    }

    @Override
    public Void visitThrow(ThrowTree tree, Void nothing) {
        MethodTree around = methodAround();
        boolean inFace = around != null && around.getModifiers().getFlags().contains(Modifier.PUBLIC)
            && around.getReturnType() != null;
        check(inFace, tree, "the face's methods alone throw");
        check(tree.getExpression() instanceof NewClassTree, tree, "rule 6: throw new E(..)");
        if (inFace && tree.getExpression() instanceof NewClassTree) {
            NewClassTree made = (NewClassTree) tree.getExpression();
            String type = made.getIdentifier().toString();
            check(EXCEPTIONS.contains(type), tree, "rule 6: not " + type);
            check(around.getThrows().toString().contains(type), tree, "the face does not name " + type);
            for (ExpressionTree text : made.getArguments()) {
                check(text.getKind() == Tree.Kind.STRING_LITERAL, tree, "rule 6: a written text");
            }
        }
        return super.visitThrow(tree, nothing);
    }

    @Override
    public Void visitNewClass(NewClassTree tree, Void nothing) {
        boolean thrown = getCurrentPath().getParentPath().getLeaf() instanceof ThrowTree;
        check(thrown || madeOnce(), tree, "an object that a call makes");
        check(tree.getClassBody() == null, tree, "no class without a name");
        return super.visitNewClass(tree, nothing);
    }

    @Override
    public Void visitNewArray(NewArrayTree tree, Void nothing) {
        check(madeOnce(), tree, "an array that a call makes");
        for (ExpressionTree length : tree.getDimensions()) {
            check(length.toString().matches("[A-Z_0-9 +*()]+"), tree, "a length that is no constant: " + length);
        }
        return super.visitNewArray(tree, nothing);
    }

    /** In a constructor, or as the first value of a field. */
    private boolean madeOnce() {
        MethodTree around = methodAround();
        return around == null || around.getReturnType() == null;
    }

    @Override
    public Void visitBinary(BinaryTree tree, Void nothing) {
        if (tree.getKind() == Tree.Kind.DIVIDE) {
            check(tree.getRightOperand().toString().matches("[A-Z_]+"), tree, "a divisor that is no constant");
        }
        boolean joins = tree.getKind() == Tree.Kind.PLUS && (tree.getLeftOperand().getKind() == Tree.Kind.STRING_LITERAL
            || tree.getRightOperand().getKind() == Tree.Kind.STRING_LITERAL);
        check(!joins, tree, "rule 10: texts are not joined by +");
        return super.visitBinary(tree, nothing);
    }

    @Override
    public Void visitVariable(VariableTree tree, Void nothing) {
        String type = String.valueOf(tree.getType());
        check(Arrays.asList("int", "long", "boolean", "int[]", "boolean[]").contains(type) || type.matches(
            "Earths|Lots|Trials|Blame|Grades|Machine"), tree, "rule 3: the program goes without " + type);
        return super.visitVariable(tree, nothing);
    }

    /** Rule 8: what calls itself is told above. Rule 11: all other calls go at most eight deep. */
    private int depth(String method, Set<String> open) {
        int deepest = 0;
        Set<String> within = new HashSet<>(open);
        within.add(method);
        for (String called : calls.getOrDefault(method, Set.of())) {
            if (within.contains(called)) {
                check(SEARCHES.contains(called), unit, "rule 8: calls itself, " + called);
            } else {
                deepest = Math.max(deepest, depth(called, within));
            }
        }
        return deepest + 1;
    }

    private void checkCalls() {
        for (String method : calls.keySet()) {
            check(depth(method, Set.of()) <= 8, unit, "rule 11: more than eight deep, " + method);
        }
        check(calls.keySet().containsAll(SEARCHES), unit, "a search that is not there: " + SEARCHES);
    }

    public static void main(String[] args) throws IOException {
        JavaCompiler compiler = ToolProvider.getSystemJavaCompiler();
        try (StandardJavaFileManager files = compiler.getStandardFileManager(null, null, null)) {
            JavacTask task = (JavacTask) compiler.getTask(null, files, null, List.of("--release", "17", "-Xlint:all"),
                null, files.getJavaFileObjects(new File(PROGRAM)));
            CompilationUnitTree unit = task.parse().iterator().next();
            task.analyze();
            LanguageTest test = new LanguageTest(unit, Trees.instance(task));
            test.scan(unit, null);
            test.checkCalls();
            System.out.println(test.calls.size() + " methods, " + wrong + " faults of the language");
        }
        if (wrong != 0) {
            System.exit(1);
        }
    }
}
