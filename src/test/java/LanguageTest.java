import com.sun.source.tree.ClassTree;
import com.sun.source.tree.CompilationUnitTree;
import com.sun.source.tree.IdentifierTree;
import com.sun.source.tree.LineMap;
import com.sun.source.tree.MemberSelectTree;
import com.sun.source.tree.MethodInvocationTree;
import com.sun.source.tree.MethodTree;
import com.sun.source.tree.NewArrayTree;
import com.sun.source.tree.NewClassTree;
import com.sun.source.tree.Tree;
import com.sun.source.tree.VariableTree;
import com.sun.source.util.JavacTask;
import com.sun.source.util.SourcePositions;
import com.sun.source.util.TreeScanner;
import com.sun.source.util.Trees;
import java.io.IOException;
import java.nio.file.Path;
import java.util.HashMap;
import java.util.HashSet;
import java.util.Map;
import java.util.Set;
import java.util.TreeSet;
import javax.lang.model.element.Modifier;
import javax.tools.JavaCompiler;
import javax.tools.StandardJavaFileManager;
import javax.tools.ToolProvider;

/** The rules of LANGUAGE.md that can be read off the source; the first argument is the class's file. */
public final class LanguageTest extends TreeScanner<Void, Void> {
    private static final Due DUE = new Due("LanguageTest");
    private static final Set<String> FACE = Set.of("write", "wipe", "fault", "flat", "cell", "find", "lark", "walk",
        "hour", "dig", "put", "sell", "undo", "bared", "flooded", "reach", "home", "gets", "judge", "see", "unsee",
        "phases", "share", "rests", "storms", "seed", "springs", "keep", "again", "count");
    private static final Set<String> CONSTANTS = Set.of("UNKNOWN", "OUTSIDE", "STATE", "FULL", "NONE");
    private static final Set<Tree.Kind> REFUSED = Set.of(Tree.Kind.THROW, Tree.Kind.TRY, Tree.Kind.CATCH,
        Tree.Kind.SYNCHRONIZED, Tree.Kind.ASSERT, Tree.Kind.LAMBDA_EXPRESSION, Tree.Kind.MEMBER_REFERENCE,
        Tree.Kind.IMPORT, Tree.Kind.PACKAGE, Tree.Kind.DOUBLE_LITERAL, Tree.Kind.FLOAT_LITERAL);
    private static final Set<String> LIBRARY = Set.of("Integer.bitCount", "Math.max", "Math.min", "Math.abs",
        "System.arraycopy", "Arrays.fill");

    private final CompilationUnitTree unit;
    private final SourcePositions positions;
    private final Map<String, Set<String>> calls = new HashMap<>();
    private final Set<String> publicMethods = new TreeSet<>();
    private final Set<String> publicFields = new TreeSet<>();
    private int depth;
    private int classes;
    private String method = "";
    private boolean inClassBody;

    private LanguageTest(CompilationUnitTree unit, SourcePositions positions) {
        this.unit = unit;
        this.positions = positions;
    }

    public static void main(String[] args) throws IOException {
        JavaCompiler compiler = ToolProvider.getSystemJavaCompiler();
        try (StandardJavaFileManager files = compiler.getStandardFileManager(null, null, null)) {
            JavacTask task = (JavacTask) compiler.getTask(null, files, null, null, null,
                files.getJavaFileObjects(Path.of(args[0])));
            for (CompilationUnitTree unit : task.parse()) {
                LanguageTest test = new LanguageTest(unit, Trees.instance(task).getSourcePositions());
                test.scan(unit, null);
                test.judgeWhole();
            }
        }
        DUE.end();
    }

    private void judgeWhole() {
        DUE.is("public methods are the face", publicMethods.equals(FACE) ? 1 : 0, 1);
        DUE.is("public fields are the constants", publicFields.equals(CONSTANTS) ? 1 : 0, 1);
        DUE.is("classes beyond twelve", Math.max(0, classes - 12), 0);
        for (String name : calls.keySet()) {
            DUE.is("calls deeper than eight from " + name, Math.max(0, deep(name, new HashSet<>()) - 8), 0);
        }
    }

    /** The longest chain of calls; methods of like names count as one. */
    private int deep(String name, Set<String> open) {
        if (!calls.containsKey(name)) {
            return 0;
        }
        if (!open.add(name)) {
            DUE.is("recursion by " + name, 1, 0);
            return 100;
        }
        int most = 0;
        for (String called : calls.get(name)) {
            most = Math.max(most, deep(called, open));
        }
        open.remove(name);
        return most + 1;
    }

    private long line(Tree tree, boolean end) {
        LineMap lines = unit.getLineMap();
        return lines.getLineNumber(end ? positions.getEndPosition(unit, tree) : positions.getStartPosition(unit, tree));
    }

    @Override
    public Void scan(Tree tree, Void p) {
        if (tree != null && REFUSED.contains(tree.getKind())) {
            DUE.is("line " + line(tree, false) + ": " + tree.getKind(), 1, 0);
        }
        return super.scan(tree, p);
    }

    @Override
    public Void visitClass(ClassTree tree, Void p) {
        classes++;
        Set<Modifier> flags = tree.getModifiers().getFlags();
        boolean asAsked = depth == 0
            ? flags.contains(Modifier.PUBLIC) && flags.contains(Modifier.FINAL)
            : depth == 1 && flags.contains(Modifier.PRIVATE) && flags.contains(Modifier.STATIC);
        DUE.is("modifiers of " + tree.getSimpleName(), asAsked ? 1 : 0, 1);
        int fields = 0;
        for (Tree member : tree.getMembers()) {
            boolean isField = member.getKind() == Tree.Kind.VARIABLE;
            fields += isField && !((VariableTree) member).getModifiers().getFlags().contains(Modifier.STATIC) ? 1 : 0;
        }
        DUE.is("fields beyond twenty in " + tree.getSimpleName(), Math.max(0, fields - 20), 0);
        depth++;
        inClassBody = true;
        super.visitClass(tree, p);
        depth--;
        return null;
    }

    @Override
    public Void visitMethod(MethodTree tree, Void p) {
        String name = tree.getName().toString();
        Set<Modifier> flags = tree.getModifiers().getFlags();
        if (flags.contains(Modifier.PUBLIC)) {
            if (!name.equals("<init>")) {
                publicMethods.add(name);
            }
            DUE.is("public " + name + " stands in the outer class", depth, 1);
        } else {
            DUE.is(name + " bears a name of the face", FACE.contains(name) ? 1 : 0, 0);
            DUE.is(name + " in the outer class is private", depth > 1 || flags.contains(Modifier.PRIVATE) ? 1 : 0, 1);
        }
        DUE.is("parameters beyond seven of " + name, Math.max(0, tree.getParameters().size() - 7), 0);
        DUE.is("lines beyond sixty of " + name, Math.max(0, line(tree, true) - line(tree, false) + 1 - 60), 0);
        method = name;
        calls.computeIfAbsent(name, n -> new HashSet<>());
        inClassBody = false;
        super.visitMethod(tree, p);
        inClassBody = true;
        return null;
    }

    @Override
    public Void visitVariable(VariableTree tree, Void p) {
        Set<Modifier> flags = tree.getModifiers().getFlags();
        if (inClassBody) {
            if (flags.contains(Modifier.PUBLIC)) {
                publicFields.add(tree.getName().toString());
            } else {
                DUE.is("field " + tree.getName() + " of the outer class is private",
                    depth > 1 || flags.contains(Modifier.PRIVATE) ? 1 : 0, 1);
            }
            DUE.is("static " + tree.getName() + " is final",
                !flags.contains(Modifier.STATIC) || flags.contains(Modifier.FINAL) ? 1 : 0, 1);
        }
        return super.visitVariable(tree, p);
    }

    @Override
    public Void visitMethodInvocation(MethodInvocationTree tree, Void p) {
        Tree chosen = tree.getMethodSelect();
        String name = chosen instanceof MemberSelectTree m ? m.getIdentifier().toString() : chosen.toString();
        calls.computeIfAbsent(method, n -> new HashSet<>()).add(name);
        DUE.is(method + " makes a copy by clone", name.equals("clone") ? 1 : 0, 0);
        if (chosen instanceof MemberSelectTree m && m.getExpression() instanceof IdentifierTree on
                && Character.isUpperCase(on.getName().charAt(0))) {
            DUE.is(chosen + " is of the library that is let", LIBRARY.contains(chosen.toString()) ? 1 : 0, 1);
        }
        return super.visitMethodInvocation(tree, p);
    }

    @Override
    public Void visitNewClass(NewClassTree tree, Void p) {
        DUE.is("no body of a new " + tree.getIdentifier(), tree.getClassBody() == null ? 1 : 0, 1);
        DUE.is("objects are made in the constructor alone, not in " + method, method.equals("<init>") ? 1 : 0, 1);
        return super.visitNewClass(tree, p);
    }

    @Override
    public Void visitNewArray(NewArrayTree tree, Void p) {
        DUE.is("arrays are made with the object alone, not in " + method,
            inClassBody || method.equals("<init>") ? 1 : 0, 1);
        return super.visitNewArray(tree, p);
    }
}
