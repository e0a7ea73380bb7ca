import com.sun.source.tree.AssertTree;
import com.sun.source.tree.BlockTree;
import com.sun.source.tree.ClassTree;
import com.sun.source.tree.CompilationUnitTree;
import com.sun.source.tree.DoWhileLoopTree;
import com.sun.source.tree.EnhancedForLoopTree;
import com.sun.source.tree.ForLoopTree;
import com.sun.source.tree.IdentifierTree;
import com.sun.source.tree.LambdaExpressionTree;
import com.sun.source.tree.MemberReferenceTree;
import com.sun.source.tree.MemberSelectTree;
import com.sun.source.tree.MethodInvocationTree;
import com.sun.source.tree.MethodTree;
import com.sun.source.tree.NewArrayTree;
import com.sun.source.tree.NewClassTree;
import com.sun.source.tree.SynchronizedTree;
import com.sun.source.tree.ThrowTree;
import com.sun.source.tree.Tree;
import com.sun.source.tree.TryTree;
import com.sun.source.tree.TypeCastTree;
import com.sun.source.tree.VariableTree;
import com.sun.source.tree.WhileLoopTree;
import com.sun.source.util.JavacTask;
import com.sun.source.util.SourcePositions;
import com.sun.source.util.TreeScanner;
import com.sun.source.util.Trees;
import java.io.IOException;
import java.io.File;
import java.util.ArrayList;
import java.util.Arrays;
import java.util.HashSet;
import java.util.List;
import java.util.Map;
import java.util.Set;
import java.util.TreeMap;
import java.util.TreeSet;
import javax.lang.model.element.Modifier;
import javax.tools.JavaCompiler;
import javax.tools.StandardJavaFileManager;
import javax.tools.ToolProvider;

/**
 * Rules 2 to 6, 8, 9, 11 and 12 of LANGUAGE.md, as far as the source shows them. It is stricter than the rules:
 * the class uses no library, no cast, no recursion, no loop but for, and makes objects in no loop but one of the
 * constructor's. Rule 1 is FaceTest's; that no call throws (rule 7) is seen in all other tests.
 */
public final class LanguageTest extends TreeScanner<Void, Void> {
    private static final String SOURCE = "src/main/java/CapTreeKernel.java";
    private static final String NAME = "CapTreeKernel";
    private static final int MOST_PARAMETERS = 7;
    private static final int MOST_LINES = 60;
    private static final int MOST_CLASSES = 12;
    private static final int MOST_FIELDS = 20;
    private static final int DEEPEST = 8;

    private final CompilationUnitTree unit;
    private final SourcePositions positions;
    private final Set<String> classes = new TreeSet<>();
    private final List<VariableTree> variables = new ArrayList<>();
    /** By method, the methods and constructors that it calls; a constructor is called after its class. */
    private final Map<String, Set<String>> calls = new TreeMap<>();
    private String className = "";
    private String method = "";
    private int loops;
    private int wrong;

    private LanguageTest(CompilationUnitTree unit, SourcePositions positions) {
        this.unit = unit;
        this.positions = positions;
    }

    public static void main(String[] args) throws IOException {
        Watchdog.start();
        JavaCompiler compiler = ToolProvider.getSystemJavaCompiler();
        StandardJavaFileManager files = compiler.getStandardFileManager(null, null, null);
        JavacTask task = (JavacTask) compiler.getTask(null, files, null, null, null,
            files.getJavaFileObjects(new File(SOURCE)));
        CompilationUnitTree unit = task.parse().iterator().next();
        LanguageTest test = new LanguageTest(unit, Trees.instance(task).getSourcePositions());
        test.scan(unit, null);
        test.checkUnit();
        test.checkTypes();
        test.checkCalls();
        System.out.println(test.classes.size() + " classes, " + test.calls.size() + " methods; "
            + test.wrong + " faults of the language");
        if (test.wrong != 0) {
            System.exit(1);
        }
    }

    private void check(boolean good, String rule, Tree where) {
        if (!good) {
            wrong++;
            long line = unit.getLineMap().getLineNumber(positions.getStartPosition(unit, where));
            System.out.println("line " + line + ": " + rule);
        }
    }

    private void checkUnit() {
        check(unit.getPackageName() == null, "no package line", unit);
        check(unit.getImports().isEmpty(), "no import: no library is needed", unit);
        check(unit.getTypeDecls().size() == 1, "one public class", unit);
        check(classes.size() <= MOST_CLASSES, "rule 11: some twelve classes", unit);
    }

    @Override
    public Void visitClass(ClassTree tree, Void none) {
        String name = tree.getSimpleName().toString();
        Set<Modifier> modifiers = tree.getModifiers().getFlags();
        check(method.isEmpty(), "rule 2: no local or anonymous class", tree);
        check(name.equals(NAME) || modifiers.contains(Modifier.STATIC), "rule 2: classes inside are static", tree);
        classes.add(name);
        int fields = 0;
        for (Tree member : tree.getMembers()) {
            check(!(member instanceof BlockTree), "rule 5: no initialiser block", member);
            if (member instanceof VariableTree field) {
                fields += checkField(field);
            }
        }
        check(fields <= MOST_FIELDS, "rule 11: some twenty fields beside its constants", tree);
        String outer = className;
        className = name;
        super.visitClass(tree, none);
        className = outer;
        return null;
    }

    /** 1 for a field that is no constant. */
    private int checkField(VariableTree field) {
        Set<Modifier> modifiers = field.getModifiers().getFlags();
        if (!modifiers.contains(Modifier.STATIC)) {
            return 1;
        }
        String type = field.getType().toString();
        boolean constant = type.equals("int")
            || type.equals("int[]") && field.getInitializer() instanceof NewArrayTree array
            && array.getInitializers() != null;
        check(constant && modifiers.contains(Modifier.FINAL), "rule 5: static fields are constants", field);
        return 0;
    }

    @Override
    public Void visitMethod(MethodTree tree, Void none) {
        boolean isConstructor = tree.getReturnType() == null;
        method = isConstructor ? className : tree.getName().toString();
        check(!calls.containsKey(method), "a name for each method, or the calls can't be told here", tree);
        calls.put(method, new TreeSet<>());
        check(tree.getParameters().size() <= MOST_PARAMETERS, "rule 11: at most seven parameters", tree);
        check(tree.getThrows().isEmpty(), "rule 6: no throw", tree);
        check(!Arrays.asList("equals", "hashCode", "toString").contains(method), "rule 6: no " + method, tree);
        long from = unit.getLineMap().getLineNumber(positions.getStartPosition(unit, tree));
        long to = unit.getLineMap().getLineNumber(positions.getEndPosition(unit, tree));
        check(to - from < MOST_LINES, "rule 11: methods stay short", tree);
        super.visitMethod(tree, none);
        method = "";
        return null;
    }

    @Override
    public Void visitMethodInvocation(MethodInvocationTree tree, Void none) {
        Tree selected = tree.getMethodSelect();
        String name = selected instanceof MemberSelectTree member ? member.getIdentifier().toString()
            : selected instanceof IdentifierTree identifier ? identifier.getName().toString() : "?";
        called(name.equals("super") ? "Thing" : name, tree);
        return super.visitMethodInvocation(tree, none);
    }

    @Override
    public Void visitNewClass(NewClassTree tree, Void none) {
        check(tree.getClassBody() == null, "rule 2: no anonymous class", tree);
        check(loops == 0 || method.equals(NAME), "rule 12: no object is made in a loop", tree);
        called(tree.getIdentifier().toString(), tree);
        return super.visitNewClass(tree, none);
    }

    private void called(String name, Tree where) {
        check(!method.isEmpty(), "rule 5: no call outside of methods", where);
        if (!method.isEmpty()) {
            calls.get(method).add(name);
        }
    }

    @Override
    public Void visitNewArray(NewArrayTree tree, Void none) {
        check(tree.getDimensions().size() <= 1, "rule 3: arrays of one dimension", tree);
        check(method.isEmpty() || classes.contains(method), "rows are made in constructors alone", tree);
        check(loops == 0, "rule 12: no row is made in a loop", tree);
        return super.visitNewArray(tree, none);
    }

    @Override
    public Void visitVariable(VariableTree tree, Void none) {
        variables.add(tree);
        return super.visitVariable(tree, none);
    }

    private void checkTypes() {
        for (VariableTree v : variables) {
            String type = v.getType() == null ? "var" : v.getType().toString();
            String element = type.endsWith("[]") ? type.substring(0, type.length() - 2) : type;
            boolean good = element.equals("int") || element.equals("boolean") || classes.contains(element);
            check(good, "rule 3: no type but numbers, own classes and rows of them: " + type, v);
        }
    }

    private void checkCalls() {
        for (String from : calls.keySet()) {
            for (String to : calls.get(from)) {
                boolean own = calls.containsKey(to) || classes.contains(to);
                check(own, "rule 4: " + from + " calls " + to + ", which is no method of its own", unit);
            }
            int depth = depthOf(from, new HashSet<>());
            check(depth <= DEEPEST, "rule 11: calls go at most eight deep: " + from + " " + depth, unit);
        }
    }

    /** How many calls stand open at once below and with this one. */
    private int depthOf(String name, Set<String> open) {
        check(!open.contains(name), "rule 8: " + name + " calls itself", unit);
        if (open.contains(name) || !calls.containsKey(name)) {
            return 0;
        }
        open.add(name);
        int deepest = 0;
        for (String to : calls.get(name)) {
            deepest = Math.max(deepest, depthOf(to, open));
        }
        open.remove(name);
        return deepest + 1;
    }

    @Override
    public Void visitForLoop(ForLoopTree tree, Void none) {
        boolean ends = tree.getCondition() != null && !tree.getUpdate().isEmpty();
        check(ends, "rule 9: a loop shows its end", tree);
        loops++;
        super.visitForLoop(tree, none);
        loops--;
        return null;
    }

    @Override
    public Void visitEnhancedForLoop(EnhancedForLoopTree tree, Void none) {
        loops++;
        super.visitEnhancedForLoop(tree, none);
        loops--;
        return null;
    }

    @Override
    public Void visitWhileLoop(WhileLoopTree tree, Void none) {
        check(false, "rule 9: a loop shows its end: no while", tree);
        return super.visitWhileLoop(tree, none);
    }

    @Override
    public Void visitDoWhileLoop(DoWhileLoopTree tree, Void none) {
        check(false, "rule 9: a loop shows its end: no do", tree);
        return super.visitDoWhileLoop(tree, none);
    }

    @Override
    public Void visitTypeCast(TypeCastTree tree, Void none) {
        check(false, "rule 6: no cast is needed", tree);
        return super.visitTypeCast(tree, none);
    }

    @Override
    public Void visitThrow(ThrowTree tree, Void none) {
        check(false, "rule 6: no throw", tree);
        return super.visitThrow(tree, none);
    }

    @Override
    public Void visitTry(TryTree tree, Void none) {
        check(false, "rule 6: no try", tree);
        return super.visitTry(tree, none);
    }

    @Override
    public Void visitAssert(AssertTree tree, Void none) {
        check(false, "rule 6: no assert", tree);
        return super.visitAssert(tree, none);
    }

    @Override
    public Void visitSynchronized(SynchronizedTree tree, Void none) {
        check(false, "rule 6: no synchronized", tree);
        return super.visitSynchronized(tree, none);
    }

    @Override
    public Void visitLambdaExpression(LambdaExpressionTree tree, Void none) {
        check(false, "rule 2: no lambda", tree);
        return super.visitLambdaExpression(tree, none);
    }

    @Override
    public Void visitMemberReference(MemberReferenceTree tree, Void none) {
        check(false, "rule 2: no method reference", tree);
        return super.visitMemberReference(tree, none);
    }
}
