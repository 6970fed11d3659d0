import com.sun.source.tree.ClassTree;
import com.sun.source.tree.CompilationUnitTree;
import com.sun.source.tree.IdentifierTree;
import com.sun.source.tree.LineMap;
import com.sun.source.tree.MemberSelectTree;
import com.sun.source.tree.MethodInvocationTree;
import com.sun.source.tree.MethodTree;
import com.sun.source.tree.NewArrayTree;
import com.sun.source.tree.NewClassTree;
import com.sun.source.tree.Tree;
import com.sun.source.tree.VariableTree;
import com.sun.source.util.JavacTask;
import com.sun.source.util.TreePathScanner;
import com.sun.source.util.Trees;
import java.io.File;
import java.util.ArrayList;
import java.util.LinkedHashMap;
import java.util.List;
import java.util.Map;
import java.util.Set;
import java.util.TreeSet;
import javax.lang.model.element.Element;
import javax.lang.model.element.ElementKind;
import javax.lang.model.element.ExecutableElement;
import javax.lang.model.element.Modifier;
import javax.lang.model.type.TypeMirror;
import javax.tools.JavaCompiler;
import javax.tools.StandardJavaFileManager;
import javax.tools.ToolProvider;

/** The rules of LANGUAGE.md that can be seen in the source, and that nothing is made after the constructors. */
public final class LanguageTest extends TreePathScanner<Void, Void> {
    private static final Checks C = new Checks();
    private static final Set<String> FACE = new TreeSet<>(List.of("feed(long,int)", "read()", "point(int)",
            "add(int)", "status(int,int,int)", "map(int)", "parts(int,int,int,boolean)", "rank(int,int)",
            "range(int,int,int,int)", "about(int,int)", "form(int)", "inForm()", "alike()", "encode()", "decode()",
            "make(boolean)", "fault(int)", "octet(int)", "WideNames()"));
    private static final Set<String> LIBRARY = Set.of("java.lang.Object", "java.lang.String", "java.lang.Integer",
            "java.lang.StringBuilder", "java.lang.Math", "java.lang.Long", "java.util.ArrayList", "java.util.List",
            "java.util.Arrays");
    private static final Set<Tree.Kind> BANNED = Set.of(Tree.Kind.LAMBDA_EXPRESSION, Tree.Kind.MEMBER_REFERENCE,
            Tree.Kind.THROW, Tree.Kind.TRY, Tree.Kind.CATCH, Tree.Kind.SYNCHRONIZED, Tree.Kind.ASSERT,
            Tree.Kind.STRING_LITERAL, Tree.Kind.SWITCH_EXPRESSION, Tree.Kind.INSTANCE_OF, Tree.Kind.IMPORT);

    private final Trees trees;
    private final CompilationUnitTree unit;
    private final Map<String, Set<String>> calls = new LinkedHashMap<>();
    private final Set<String> face = new TreeSet<>();
    private String method = "";
    private int classes = 0;

    private LanguageTest(Trees trees, CompilationUnitTree unit) {
        this.trees = trees;
        this.unit = unit;
    }

    public static void main(String[] args) throws Exception {
        JavaCompiler compiler = ToolProvider.getSystemJavaCompiler();
        StandardJavaFileManager files = compiler.getStandardFileManager(null, null, null);
        JavacTask task = (JavacTask) compiler.getTask(null, files, null, List.of("-proc:none"), null,
                files.getJavaFileObjects(new File("src/main/java/WideNames.java")));
        CompilationUnitTree unit = task.parse().iterator().next();
        task.analyze();
        LanguageTest look = new LanguageTest(Trees.instance(task), unit);
        look.scan(unit, null);
        C.due("rule 1: the face is " + look.face, look.face.equals(FACE));
        C.due("rule 11: " + look.classes + " classes", look.classes <= 12);
        for (String start : look.calls.keySet()) {
            List<String> deepest = look.deepest(start, new ArrayList<>());
            C.due("rule 11: calls go at most eight deep: " + deepest, deepest.size() <= 8);
        }
        C.end();
    }

    /** The longest run of calls that begins with a method; a method that comes up again is told as too deep. */
    private List<String> deepest(String start, List<String> open) {
        List<String> longest = new ArrayList<>();
        if (open.contains(start)) {
            C.due("rule 8: recursion of " + start, false);
            return longest;
        }
        open.add(start);
        for (String next : calls.getOrDefault(start, Set.of())) {
            List<String> of = deepest(next, open);
            longest = of.size() > longest.size() ? of : longest;
        }
        open.remove(start);
        longest.add(0, start);
        return longest;
    }

    private String where(Tree tree) {
        LineMap lines = unit.getLineMap();
        return "line " + lines.getLineNumber(trees.getSourcePositions().getStartPosition(unit, tree));
    }

    private static String nameOf(Element e) {
        return e.getEnclosingElement().getSimpleName() + "." + e;
    }

    @Override
    public Void scan(Tree tree, Void v) {
        if (tree != null) {
            C.due("rule 6: " + tree.getKind() + ", " + where(tree), !BANNED.contains(tree.getKind()));
            C.due("rule 2: a class in a method, " + where(tree), !(tree instanceof ClassTree) || method.isEmpty());
        }
        return super.scan(tree, v);
    }

    @Override
    public Void visitClass(ClassTree tree, Void v) {
        classes++;
        Element e = trees.getElement(getCurrentPath());
        int fields = 0;
        for (Element member : e.getEnclosedElements()) {
            fields += member.getKind() == ElementKind.FIELD && !member.getModifiers().contains(Modifier.STATIC) ? 1 : 0;
            member(e, member);
        }
        C.due("rule 11: " + fields + " fields in " + e, fields <= 20);
        boolean outer = e.getSimpleName().contentEquals("WideNames");
        C.due("rules 1, 2: modifiers of " + e, e.getModifiers().contains(Modifier.FINAL)
                && e.getModifiers().contains(outer ? Modifier.PUBLIC : Modifier.STATIC)
                && (outer || !e.getModifiers().contains(Modifier.PUBLIC)));
        return super.visitClass(tree, v);
    }

    private void member(Element of, Element member) {
        boolean hidden = member.getModifiers().contains(Modifier.PRIVATE);
        if (of.getSimpleName().contentEquals("WideNames") && !hidden && !member.getKind().isClass()) {
            C.due("rule 1: " + member + " is public", member.getModifiers().contains(Modifier.PUBLIC));
            face.add(member.toString());
        } else {
            C.due("rule 1: the name of " + member, FACE.stream().noneMatch(f ->
                    member instanceof ExecutableElement && f.startsWith(member.getSimpleName() + "(")));
        }
        if (member.getKind() == ElementKind.FIELD && member.getModifiers().contains(Modifier.STATIC)) {
            C.due("rule 5: " + member, member.getModifiers().contains(Modifier.FINAL)
                    && member.asType().getKind().isPrimitive());
        }
    }

    @Override
    public Void visitMethod(MethodTree tree, Void v) {
        method = nameOf(trees.getElement(getCurrentPath()));
        calls.putIfAbsent(method, new TreeSet<>());
        C.due("rule 11: parameters of " + method, tree.getParameters().size() <= 7);
        LineMap lines = unit.getLineMap();
        long first = lines.getLineNumber(trees.getSourcePositions().getStartPosition(unit, tree));
        long last = lines.getLineNumber(trees.getSourcePositions().getEndPosition(unit, tree));
        C.due("rule 11: lines of " + method, last - first < 60);
        super.visitMethod(tree, v);
        method = "";
        return null;
    }

    @Override
    public Void visitMethodInvocation(MethodInvocationTree tree, Void v) {
        call(trees.getElement(getCurrentPath()), tree);
        return super.visitMethodInvocation(tree, v);
    }

    @Override
    public Void visitNewClass(NewClassTree tree, Void v) {
        call(trees.getElement(getCurrentPath()), tree);
        C.due("the room: made outside a constructor, " + where(tree), isConstructor());
        return super.visitNewClass(tree, v);
    }

    @Override
    public Void visitNewArray(NewArrayTree tree, Void v) {
        C.due("the room: made outside a constructor, " + where(tree), isConstructor());
        return super.visitNewArray(tree, v);
    }

    private boolean isConstructor() {
        String type = method.substring(0, Math.max(0, method.indexOf('.')));
        return !type.isEmpty() && method.startsWith(type + "." + type + "(")
                || method.contains(".<init>");
    }

    private void call(Element called, Tree tree) {
        Element type = called.getEnclosingElement();
        boolean own = type.toString().startsWith("WideNames");
        C.due("rule 4: " + type + "." + called + ", " + where(tree), own || LIBRARY.contains(type.toString()));
        C.due("rule 4: " + called + ", " + where(tree), !called.getSimpleName().toString().endsWith("Exact"));
        if (!called.getSimpleName().contentEquals("<init>") || own) {
            calls.computeIfAbsent(method, m -> new TreeSet<>()).add(nameOf(called));
        }
    }

    @Override
    public Void visitIdentifier(IdentifierTree tree, Void v) {
        boolean bare = tree.getName().contentEquals("this")
                && !(getCurrentPath().getParentPath().getLeaf() instanceof MemberSelectTree);
        C.due("rule 12: handed out, " + where(tree), !bare);
        return super.visitIdentifier(tree, v);
    }

    @Override
    public Void visitVariable(VariableTree tree, Void v) {
        Element e = trees.getElement(getCurrentPath());
        TypeMirror type = e.asType();
        C.due("rule 3: " + type + " " + e, type.toString().startsWith("WideNames")
                || type.toString().matches("(int|long|boolean|char)(\\[\\])?"));
        return super.visitVariable(tree, v);
    }
}
