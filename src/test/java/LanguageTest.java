import com.sun.source.tree.ClassTree;
import com.sun.source.tree.CompilationUnitTree;
import com.sun.source.tree.MethodInvocationTree;
import com.sun.source.tree.MethodTree;
import com.sun.source.tree.NewArrayTree;
import com.sun.source.tree.NewClassTree;
import com.sun.source.tree.Tree;
import com.sun.source.tree.Tree.Kind;
import com.sun.source.tree.VariableTree;
import com.sun.source.util.JavacTask;
import com.sun.source.util.TreePath;
import com.sun.source.util.TreePathScanner;
import com.sun.source.util.Trees;
import java.nio.file.Files;
import java.nio.file.Path;
import java.util.LinkedHashMap;
import java.util.LinkedHashSet;
import java.util.List;
import java.util.Map;
import java.util.Set;
import javax.lang.model.element.Element;
import javax.lang.model.element.ElementKind;
import javax.lang.model.element.ExecutableElement;
import javax.lang.model.element.Modifier;
import javax.lang.model.element.TypeElement;
import javax.lang.model.element.VariableElement;
import javax.lang.model.type.ArrayType;
import javax.lang.model.type.DeclaredType;
import javax.lang.model.type.TypeMirror;
import javax.lang.model.util.ElementFilter;
import javax.tools.JavaFileObject;
import javax.tools.StandardJavaFileManager;
import javax.tools.ToolProvider;

/** What LANGUAGE.md asks of the text of the class, as far as the compiler's own tree shows it, rule by rule. */
public final class LanguageTest extends TreePathScanner<Void, Void> {
    private static final Path FILE = Path.of("src/main/java/QuorumNodes.java");

    private static final int MOST_PARAMETERS = 7, MOST_LINES = 60, MOST_DEEP = 8, MOST_CLASSES = 12, MOST_FIELDS = 20;

    private static final Set<Kind> REFUSED = Set.of(Kind.THROW, Kind.TRY, Kind.CATCH, Kind.SYNCHRONIZED, Kind.ASSERT,
        Kind.LAMBDA_EXPRESSION, Kind.MEMBER_REFERENCE, Kind.IMPORT, Kind.PACKAGE, Kind.TYPE_CAST);

    /** What the class uses of the library; LANGUAGE.md lists more, which may be added here. */
    private static final Set<String> LIBRARY = Set.of("Math.max", "Math.min", "Integer.bitCount", "System.arraycopy");

    private static final Checks CHECKS = new Checks();

    private final Trees trees;
    private final CompilationUnitTree unit;
    private final Map<Element, Set<Element>> calls = new LinkedHashMap<>();
    private final Set<TypeElement> classes = new LinkedHashSet<>();

    private LanguageTest(Trees itsTrees, CompilationUnitTree itsUnit) {
        trees = itsTrees;
        unit = itsUnit;
    }

    public static void main(String[] args) throws Exception {
        try (StandardJavaFileManager files = ToolProvider.getSystemJavaCompiler().getStandardFileManager(null, null, null)) {
            Iterable<? extends JavaFileObject> sources = files.getJavaFileObjects(FILE);
            JavacTask task = (JavacTask) ToolProvider.getSystemJavaCompiler().getTask(null, files, null,
                List.of("--release", "17", "-proc:none"), null, sources);
            CompilationUnitTree unit = task.parse().iterator().next();
            task.analyze();
            LanguageTest test = new LanguageTest(Trees.instance(task), unit);
            test.scan(new TreePath(unit), null);
            test.checkClasses();
            test.checkDepth();
        }
        CHECKS.yes("rule 3: characters 0 to 255 alone", Files.readString(FILE).chars().allMatch(c -> c <= 255));
        CHECKS.end();
    }

    // ---- what stands in the tree

    @Override
    public Void scan(Tree tree, Void nothing) {
        if (tree != null) {
            CHECKS.no("rules 2, 6: " + tree.getKind() + " in " + tree, REFUSED.contains(tree.getKind()));
        }
        return super.scan(tree, nothing);
    }

    @Override
    public Void visitClass(ClassTree tree, Void nothing) {
        TypeElement element = (TypeElement) trees.getElement(getCurrentPath());
        classes.add(element);
        for (Tree member : tree.getMembers()) {
            CHECKS.no("rule 5: a block of " + element, member.getKind() == Kind.BLOCK);
        }
        return super.visitClass(tree, nothing);
    }

    @Override
    public Void visitMethod(MethodTree tree, Void nothing) {
        calls.putIfAbsent(trees.getElement(getCurrentPath()), new LinkedHashSet<>());
        CHECKS.yes("rule 11: the parameters of " + tree.getName(), tree.getParameters().size() <= MOST_PARAMETERS);
        CHECKS.yes("rule 11: the lines of " + tree.getName(), linesOf(tree) <= MOST_LINES);
        return super.visitMethod(tree, nothing);
    }

    private long linesOf(Tree tree) {
        long first = trees.getSourcePositions().getStartPosition(unit, tree);
        long last = trees.getSourcePositions().getEndPosition(unit, tree);
        return unit.getLineMap().getLineNumber(last) - unit.getLineMap().getLineNumber(first) + 1;
    }

    @Override
    public Void visitVariable(VariableTree tree, Void nothing) {
        CHECKS.yes("rule 3: the type of " + tree, isAllowed(trees.getTypeMirror(getCurrentPath())));
        return super.visitVariable(tree, nothing);
    }

    /** Numbers, truths, own classes, and rows of these. */
    private boolean isAllowed(TypeMirror type) {
        if (type instanceof ArrayType row) {
            return !(row.getComponentType() instanceof ArrayType) && isAllowed(row.getComponentType());
        }
        return type.getKind().isPrimitive() || type instanceof DeclaredType own && isOwn(own.asElement());
    }

    private static boolean isOwn(Element element) {
        return element.toString().startsWith("QuorumNodes");
    }

    @Override
    public Void visitMethodInvocation(MethodInvocationTree tree, Void nothing) {
        ExecutableElement called = (ExecutableElement) trees.getElement(getCurrentPath());
        addCall(called);
        Element owner = called.getEnclosingElement();
        boolean made = called.getKind() == ElementKind.CONSTRUCTOR;
        CHECKS.yes("rule 4: " + tree, made || isOwn(owner)
            || LIBRARY.contains(owner.getSimpleName() + "." + called.getSimpleName()));
        return super.visitMethodInvocation(tree, nothing);
    }

    @Override
    public Void visitNewClass(NewClassTree tree, Void nothing) {
        addCall(trees.getElement(getCurrentPath()));
        isMadeByConstructor(tree);
        CHECKS.yes("rule 2: " + tree + " has no body", tree.getClassBody() == null);
        return super.visitNewClass(tree, nothing);
    }

    @Override
    public Void visitNewArray(NewArrayTree tree, Void nothing) {
        isMadeByConstructor(tree);
        return super.visitNewArray(tree, nothing);
    }

    /** README.md says that no call makes an object. */
    private void isMadeByConstructor(Tree tree) {
        ExecutableElement around = method();
        CHECKS.yes("rule 12: " + tree, around == null || around.getKind() == ElementKind.CONSTRUCTOR);
    }

    private void addCall(Element called) {
        Element around = method();
        if (around != null) {
            calls.computeIfAbsent(around, key -> new LinkedHashSet<>()).add(called);
        }
    }

    /** The method around what is visited; null in a field's first value. */
    private ExecutableElement method() {
        for (TreePath path = getCurrentPath(); path != null; path = path.getParentPath()) {
            if (path.getLeaf() instanceof MethodTree) {
                return (ExecutableElement) trees.getElement(path);
            }
        }
        return null;
    }

    // ---- what the whole adds up to

    private void checkClasses() {
        CHECKS.yes("rule 11: " + classes.size() + " classes", classes.size() <= MOST_CLASSES);
        for (TypeElement owner : classes) {
            int fields = 0;
            for (VariableElement field : ElementFilter.fieldsIn(owner.getEnclosedElements())) {
                if (field.getModifiers().contains(Modifier.STATIC)) {
                    CHECKS.yes("rule 5: " + field + " is final", field.getModifiers().contains(Modifier.FINAL));
                    CHECKS.yes("rule 5: " + field + " is a constant", field.getConstantValue() != null);
                } else {
                    fields++;
                }
            }
            CHECKS.yes("rule 11: the fields of " + owner, fields <= MOST_FIELDS);
            boolean inside = owner.getEnclosingElement() instanceof TypeElement;
            CHECKS.yes("rule 2: " + owner + " is static", !inside || owner.getModifiers().contains(Modifier.STATIC));
        }
    }

    private void checkDepth() {
        int deepest = 0;
        for (Element method : calls.keySet()) {
            deepest = Math.max(deepest, depth(method, 0));
        }
        CHECKS.yes("rules 8, 11: calls go " + deepest + " deep", deepest > 1 && deepest <= MOST_DEEP);
    }

    /** How many calls stand open at most, the library's counted too; one that calls itself passes every bound. */
    private int depth(Element method, int above) {
        int below = 0;
        if (above <= 2 * MOST_DEEP) {
            for (Element called : calls.getOrDefault(method, Set.of())) {
                below = Math.max(below, depth(called, above + 1));
            }
        }
        return below + 1;
    }
}
