import com.sun.source.tree.*;
import com.sun.source.util.JavacTask;
import com.sun.source.util.TreePath;
import com.sun.source.util.TreePathScanner;
import com.sun.source.util.Trees;
import java.nio.file.Files;
import java.nio.file.Path;
import java.util.*;
import javax.lang.model.element.Element;
import javax.lang.model.element.ElementKind;
import javax.lang.model.element.ExecutableElement;
import javax.lang.model.element.Modifier;
import javax.lang.model.element.TypeElement;
import javax.tools.JavaCompiler;
import javax.tools.StandardJavaFileManager;
import javax.tools.ToolProvider;

/** The rules of ../shared/LANGUAGE.md that can be seen from the source of the class. */
public final class LanguageTest {
    private static final Path SOURCE = Path.of("src/main/java/UnreadScript.java");
    private static final int MOST_LINES = 60, MOST_PARAMETERS = 7, MOST_CLASSES = 12, MOST_FIELDS = 20, MOST_DEPTH = 8;
    private static final Set<Tree.Kind> RULED_OUT = EnumSet.of(Tree.Kind.THROW, Tree.Kind.TRY, Tree.Kind.CATCH,
            Tree.Kind.SYNCHRONIZED, Tree.Kind.ASSERT, Tree.Kind.LAMBDA_EXPRESSION, Tree.Kind.MEMBER_REFERENCE,
            Tree.Kind.SWITCH_EXPRESSION, Tree.Kind.INSTANCE_OF, Tree.Kind.ANNOTATION, Tree.Kind.IMPORT,
            Tree.Kind.DOUBLE_LITERAL, Tree.Kind.FLOAT_LITERAL);
    private static final Set<String> LIBRARY = Set.of("java.lang.Integer.bitCount", "java.lang.Integer.compare",
            "java.lang.Math.max", "java.lang.Math.min", "java.lang.String.length", "java.lang.String.charAt");
    private static final Set<String> FACE = Set.of("form", "likeness", "sign", "signs", "text", "drop", "textOf",
            "counted", "beside", "chance", "runs", "akin", "apart", "grid", "account", "values", "sure", "name",
            "dragged", "together", "word", "tabled", "read", "best", "judge", "feed", "end", "claims", "fault",
            "claim", "withdraw", "day", "known", "sheet", "lay", "count");
    private static final Set<String> CONSTANTS = Set.of("BAD", "STATE", "FULL", "NONE");

    private static int wrong;
    private static final Map<String, Set<String>> calls = new TreeMap<>();

    public static void main(String[] args) throws Exception {
        JavaCompiler compiler = ToolProvider.getSystemJavaCompiler();
        StandardJavaFileManager files = compiler.getStandardFileManager(null, null, null);
        JavacTask task = (JavacTask) compiler.getTask(null, files, null, List.of("-proc:none"), null,
                files.getJavaFileObjects(SOURCE));
        Iterable<? extends CompilationUnitTree> units = task.parse();
        task.analyze();
        Trees trees = Trees.instance(task);
        for (CompilationUnitTree unit : units) new Scanner(trees, unit).scan(unit, null);
        characters();
        depths();
        System.out.println(calls.size() + " methods looked at, " + wrong + " rules broken");
        if (wrong != 0 || calls.size() < FACE.size()) System.exit(1);
    }

    private static void broken(int rule, String what) {
        wrong++;
        System.out.println("rule " + rule + ": " + what);
    }

    private static void characters() throws Exception {
        for (byte b : Files.readAllBytes(SOURCE)) {
            if (b < 1 && b != '\n') broken(4, "a sign that is not 1 to 127");
        }
    }

    /** The longest row of calls, the library's counted too; a method that calls itself counts once. */
    private static void depths() {
        for (String method : calls.keySet()) {
            List<String> row = longest(method, new LinkedHashSet<>());
            if (row.size() > MOST_DEPTH) broken(11, "calls " + row.size() + " deep: " + row);
        }
    }

    private static List<String> longest(String method, LinkedHashSet<String> open) {
        List<String> best = List.of();
        open.add(method);
        for (String next : calls.getOrDefault(method, Set.of())) {
            if (next.equals(method)) continue;
            if (open.contains(next)) {
                broken(8, "methods that call one another: " + open);
                continue;
            }
            List<String> row = longest(next, open);
            if (row.size() > best.size()) best = row;
        }
        open.remove(method);
        List<String> all = new ArrayList<>(List.of(method));
        all.addAll(best);
        return all;
    }

    private static final class Scanner extends TreePathScanner<Void, Void> {
        private final Trees trees;
        private final CompilationUnitTree unit;
        private int classes;

        Scanner(Trees trees, CompilationUnitTree unit) {
            this.trees = trees;
            this.unit = unit;
        }

        private long line(Tree tree) {
            return unit.getLineMap().getLineNumber(trees.getSourcePositions().getStartPosition(unit, tree));
        }

        private long lastLine(Tree tree) {
            return unit.getLineMap().getLineNumber(trees.getSourcePositions().getEndPosition(unit, tree));
        }

        private Element element(Tree tree) {
            return trees.getElement(TreePath.getPath(unit, tree));
        }

        @Override
        public Void scan(Tree tree, Void none) {
            if (tree != null && RULED_OUT.contains(tree.getKind())) broken(6, tree.getKind() + " at line " + line(tree));
            return super.scan(tree, none);
        }

        @Override
        public Void visitClass(ClassTree tree, Void none) {
            TypeElement type = (TypeElement) element(tree);
            Set<Modifier> modifiers = type.getModifiers();
            classes++;
            if (classes > MOST_CLASSES) broken(11, "too many classes");
            boolean face = type.getSimpleName().contentEquals("UnreadScript");
            if (face ? !modifiers.containsAll(Set.of(Modifier.PUBLIC, Modifier.FINAL))
                    : !modifiers.containsAll(Set.of(Modifier.STATIC, Modifier.FINAL))) {
                broken(2, "modifiers of class " + type);
            }
            int fields = 0;
            for (Element member : type.getEnclosedElements()) {
                if (member.getKind() == ElementKind.FIELD && !member.getModifiers().contains(Modifier.STATIC)) fields++;
                if (member.getKind() == ElementKind.STATIC_INIT) broken(5, "static block in " + type);
                member(face, member);
            }
            if (fields > MOST_FIELDS) broken(11, fields + " fields in " + type);
            return super.visitClass(tree, none);
        }

        private void member(boolean face, Element member) {
            Set<Modifier> modifiers = member.getModifiers();
            String name = member.getSimpleName().toString();
            boolean isPrivate = modifiers.contains(Modifier.PRIVATE);
            boolean isPublic = modifiers.contains(Modifier.PUBLIC);
            if (member.getKind() == ElementKind.FIELD && modifiers.contains(Modifier.STATIC)
                    && !modifiers.contains(Modifier.FINAL)) {
                broken(5, "static field " + name);
            }
            if (member.getKind() == ElementKind.METHOD && !isPublic && FACE.contains(name)) broken(1, "method " + name);
            if (!face && isPublic) broken(1, "public " + name);
            if (!face || isPrivate || member.getKind() == ElementKind.CONSTRUCTOR) return;
            boolean told = member.getKind() == ElementKind.METHOD ? FACE.contains(name) : CONSTANTS.contains(name);
            if (!told || !isPublic) broken(1, "member " + name);
        }

        @Override
        public Void visitMethod(MethodTree tree, Void none) {
            long lines = lastLine(tree) - line(tree) + 1;
            if (lines > MOST_LINES) broken(11, lines + " lines of " + tree.getName());
            if (tree.getParameters().size() > MOST_PARAMETERS) broken(11, "parameters of " + tree.getName());
            calls.putIfAbsent(key(element(tree)), new TreeSet<>());
            return super.visitMethod(tree, none);
        }

        private static String key(Element method) {
            return method.getEnclosingElement() + "." + method;
        }

        @Override
        public Void visitMethodInvocation(MethodInvocationTree tree, Void none) {
            callTo(element(tree.getMethodSelect()));
            return super.visitMethodInvocation(tree, none);
        }

        @Override
        public Void visitNewClass(NewClassTree tree, Void none) {
            callTo(element(tree));
            if (tree.getClassBody() != null) broken(2, "a class without a name at line " + line(tree));
            return super.visitNewClass(tree, none);
        }

        // Rule 12, as this class keeps to it: objects and rows are made in constructors and initialisers alone.
        @Override
        public Void visitNewArray(NewArrayTree tree, Void none) {
            for (TreePath path = getCurrentPath(); path != null; path = path.getParentPath()) {
                if (path.getLeaf() instanceof MethodTree) broken(12, "a row made at line " + line(tree));
            }
            return super.visitNewArray(tree, none);
        }

        private void callTo(Element called) {
            if (!(called instanceof ExecutableElement)) return;
            String owner = called.getEnclosingElement().toString();
            boolean own = owner.startsWith("UnreadScript");
            String name = owner + "." + called.getSimpleName();
            if (!own && !LIBRARY.contains(name) && !name.equals("java.lang.Object.<init>")) broken(4, name);
            TreePath from = getCurrentPath();
            while (from != null && !(from.getLeaf() instanceof MethodTree)) from = from.getParentPath();
            if (from == null || name.equals("java.lang.Object.<init>")) return;
            calls.computeIfAbsent(key(trees.getElement(from)), k -> new TreeSet<>()).add(key(called));
        }

        @Override
        public Void visitBinary(BinaryTree tree, Void none) {
            String left = String.valueOf(trees.getTypeMirror(TreePath.getPath(unit, tree.getLeftOperand())));
            if (left.equals("java.lang.String")) broken(10, "texts joined or compared at line " + line(tree));
            return super.visitBinary(tree, none);
        }
    }
}
