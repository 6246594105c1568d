import com.sun.source.tree.ClassTree;
import com.sun.source.tree.CompilationUnitTree;
import com.sun.source.tree.MethodInvocationTree;
import com.sun.source.tree.MethodTree;
import com.sun.source.tree.NewArrayTree;
import com.sun.source.tree.NewClassTree;
import com.sun.source.tree.Tree;
import com.sun.source.tree.VariableTree;
import com.sun.source.util.JavacTask;
import com.sun.source.util.TreePath;
import com.sun.source.util.TreePathScanner;
import com.sun.source.util.Trees;
import java.io.File;
import java.util.EnumSet;
import java.util.List;
import java.util.Map;
import java.util.Set;
import java.util.TreeMap;
import java.util.TreeSet;
import javax.lang.model.element.Element;
import javax.lang.model.element.Modifier;
import javax.lang.model.element.TypeElement;
import javax.lang.model.type.TypeKind;
import javax.lang.model.type.TypeMirror;
import javax.tools.JavaCompiler;
import javax.tools.StandardJavaFileManager;
import javax.tools.ToolProvider;

/** The rules of LANGUAGE.md that the compiler's own tree of the class can tell: 2 to 6, 8, 11 and 12. */
public final class RulesTest extends TreePathScanner<Void, Void> {
    private static final int LINES = 60;
    private static final int DEEP = 8;
    private static final Set<String> LIBRARY = Set.of(
        "Math.abs", "Math.max", "Math.min", "Math.floorDiv", "System.arraycopy", "Arrays.fill", "Object.<init>");
    /** Where objects may be made: none of these is called more than once for a letter or a part. */
    private static final Set<String> MAKERS = Set.of("LetterFoundry.letter", "Letter.addPart");
    private static final Set<String> RECURSIONS = Set.of("Flattener.addLetter", "Flattener.addPiece");
    private static final Set<Tree.Kind> RULED_OUT = EnumSet.of(
        Tree.Kind.THROW, Tree.Kind.TRY, Tree.Kind.CATCH, Tree.Kind.SYNCHRONIZED, Tree.Kind.ASSERT,
        Tree.Kind.LAMBDA_EXPRESSION, Tree.Kind.MEMBER_REFERENCE);

    private final CompilationUnitTree unit;
    private final Trees trees;
    private final Map<String, Set<String>> calls = new TreeMap<>();
    private String method = "";

    private RulesTest(CompilationUnitTree unit, Trees trees) {
        this.unit = unit;
        this.trees = trees;
    }

    public static void main(String[] args) throws Exception {
        String path = args.length > 0 ? args[0] : "src/main/java/LetterFoundry.java";
        JavaCompiler compiler = ToolProvider.getSystemJavaCompiler();
        try (StandardJavaFileManager files = compiler.getStandardFileManager(null, null, null)) {
            JavacTask task = (JavacTask) compiler.getTask(
                null, files, null, List.of("-proc:none"), null, files.getJavaFileObjects(new File(path)));
            Iterable<? extends CompilationUnitTree> units = task.parse();
            task.analyze();
            for (CompilationUnitTree unit : units) {
                RulesTest test = new RulesTest(unit, Trees.instance(task));
                test.scan(unit, null);
                test.askDepths();
            }
        }
        Check.end();
    }

    private static void rule(int number, String what, boolean holds) {
        Check.due("rule " + number + ": " + what, holds, true);
    }

    private long lines(Tree tree) {
        long first = trees.getSourcePositions().getStartPosition(unit, tree);
        long last = trees.getSourcePositions().getEndPosition(unit, tree);
        return unit.getLineMap().getLineNumber(last) - unit.getLineMap().getLineNumber(first) + 1;
    }

    private Element elementOf(Tree tree) {
        return trees.getElement(TreePath.getPath(unit, tree));
    }

    private static String nameOf(Element e) {
        return e.getEnclosingElement().getSimpleName() + "." + e.getSimpleName();
    }

    private static boolean isOwn(Element e) {
        Element outer = e;
        while (outer.getEnclosingElement() instanceof TypeElement) {
            outer = outer.getEnclosingElement();
        }
        return outer.getSimpleName().contentEquals("LetterFoundry");
    }

    @Override
    public Void scan(Tree tree, Void none) {
        if (tree != null) {
            rule(6, method + " has " + tree.getKind(), !RULED_OUT.contains(tree.getKind()));
        }
        return super.scan(tree, none);
    }

    @Override
    public Void visitClass(ClassTree tree, Void none) {
        boolean isOuter = tree.getSimpleName().contentEquals("LetterFoundry");
        Set<Modifier> flags = tree.getModifiers().getFlags();
        rule(2, tree.getSimpleName() + " is static", isOuter || flags.contains(Modifier.STATIC));
        rule(2, tree.getSimpleName() + " stands in a class", method.isEmpty());
        for (Tree member : tree.getMembers()) {
            rule(5, "a block outside of methods", member.getKind() != Tree.Kind.BLOCK);
        }
        return super.visitClass(tree, none);
    }

    @Override
    public Void visitMethod(MethodTree tree, Void none) {
        method = nameOf(elementOf(tree));
        calls.computeIfAbsent(method, name -> new TreeSet<>());
        rule(11, method + " is short", lines(tree) <= LINES);
        rule(11, method + " has few parameters", tree.getParameters().size() <= 7);
        super.visitMethod(tree, none);
        method = "";
        return null;
    }

    @Override
    public Void visitVariable(VariableTree tree, Void none) {
        Element variable = elementOf(tree);
        TypeMirror type = trees.getTypeMirror(new TreePath(getCurrentPath(), tree.getType()));
        rule(3, variable + " is of type " + type, isAllowed(type.toString()));
        Set<Modifier> flags = tree.getModifiers().getFlags();
        if (flags.contains(Modifier.STATIC)) {
            rule(5, variable + " is final", flags.contains(Modifier.FINAL) && tree.getInitializer() != null);
            rule(5, variable + " is written out", type.getKind() == TypeKind.INT
                || tree.getInitializer() instanceof NewArrayTree made && made.getDimensions().isEmpty());
        }
        return super.visitVariable(tree, none);
    }

    private static boolean isAllowed(String type) {
        return type.matches("(int|long|boolean)(\\[\\])?|int\\[\\]\\[\\]|LetterFoundry\\.\\w+(\\[\\])?");
    }

    @Override
    public Void visitMethodInvocation(MethodInvocationTree tree, Void none) {
        Element called = elementOf(tree.getMethodSelect());
        String name = nameOf(called);
        if (isOwn(called)) {
            calls.get(method).add(name);
        } else {
            rule(4, method + " calls " + name, LIBRARY.contains(name));
        }
        return super.visitMethodInvocation(tree, none);
    }

    @Override
    public Void visitNewClass(NewClassTree tree, Void none) {
        rule(12, method + " makes an object", mayMake());
        rule(3, method + " makes one of another's", isOwn(elementOf(tree)));
        return super.visitNewClass(tree, none);
    }

    @Override
    public Void visitNewArray(NewArrayTree tree, Void none) {
        rule(12, method + " makes a row", mayMake());
        return super.visitNewArray(tree, none);
    }

    private boolean mayMake() {
        for (TreePath path = getCurrentPath(); path != null; path = path.getParentPath()) {
            Tree.Kind kind = path.getLeaf().getKind();
            if (kind == Tree.Kind.FOR_LOOP || kind == Tree.Kind.WHILE_LOOP || kind == Tree.Kind.DO_WHILE_LOOP) {
                return false;
            }
        }
        return method.isEmpty() || method.endsWith(".<init>") || MAKERS.contains(method);
    }

    private void askDepths() {
        Map<String, Integer> known = new TreeMap<>();
        for (String name : calls.keySet()) {
            rule(11, name + " calls at most eight deep: " + depth(name, new TreeSet<>(), known),
                depth(name, new TreeSet<>(), known) <= DEEP);
        }
    }

    private int depth(String name, Set<String> open, Map<String, Integer> known) {
        if (known.containsKey(name)) {
            return known.get(name);
        }
        int deepest = 0;
        open.add(name);
        for (String called : calls.getOrDefault(name, Set.of())) {
            boolean isOpen = open.contains(called);
            rule(8, name + " comes round to " + called, !isOpen || (called.equals(name) && RECURSIONS.contains(name)));
            deepest = isOpen ? deepest : Math.max(deepest, depth(called, open, known));
        }
        open.remove(name);
        known.put(name, deepest + 1);
        return deepest + 1;
    }
}
