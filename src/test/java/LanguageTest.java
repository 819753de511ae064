import com.sun.source.tree.*;
import com.sun.source.util.JavacTask;
import com.sun.source.util.SourcePositions;
import com.sun.source.util.TreePath;
import com.sun.source.util.TreePathScanner;
import com.sun.source.util.Trees;
import java.nio.file.Files;
import java.nio.file.Path;
import java.util.ArrayList;
import java.util.EnumSet;
import java.util.HashMap;
import java.util.HashSet;
import java.util.LinkedHashMap;
import java.util.LinkedHashSet;
import java.util.List;
import java.util.Map;
import java.util.Set;
import java.util.TreeSet;
import javax.lang.model.element.Element;
import javax.lang.model.element.ElementKind;
import javax.lang.model.element.ExecutableElement;
import javax.lang.model.element.Modifier;
import javax.lang.model.element.TypeElement;
import javax.lang.model.type.TypeKind;
import javax.tools.JavaCompiler;
import javax.tools.StandardJavaFileManager;
import javax.tools.ToolProvider;

/** The rules of LANGUAGE.md that can be seen in the source; the rule's number stands in each test's name. */
final class LanguageTest {
    private static final Path SOURCE = Path.of("src/main/java/TurnQueues.java");

    private static final Set<Tree.Kind> FORBIDDEN = EnumSet.of(Tree.Kind.THROW, Tree.Kind.TRY, Tree.Kind.CATCH,
            Tree.Kind.SYNCHRONIZED, Tree.Kind.ASSERT, Tree.Kind.LAMBDA_EXPRESSION, Tree.Kind.MEMBER_REFERENCE,
            Tree.Kind.INSTANCE_OF, Tree.Kind.IMPORT, Tree.Kind.PACKAGE, Tree.Kind.ANNOTATION,
            Tree.Kind.SWITCH_EXPRESSION, Tree.Kind.LABELED_STATEMENT);
    private static final Set<Tree.Kind> COMPARISONS = EnumSet.of(Tree.Kind.LESS_THAN, Tree.Kind.LESS_THAN_EQUAL,
            Tree.Kind.GREATER_THAN, Tree.Kind.GREATER_THAN_EQUAL);
    private static final Set<String> LIBRARY = Set.of("String.length", "String.charAt", "Math.min", "Math.max");
    private static final int DEEPEST = 8;

    private final Check check = new Check();
    private final Map<ExecutableElement, Set<ExecutableElement>> calls = new LinkedHashMap<>();
    private final Map<ExecutableElement, Long> lines = new HashMap<>();
    private final Set<String> library = new TreeSet<>();
    private final Set<String> forbidden = new TreeSet<>();
    private final Set<String> made = new TreeSet<>();
    private final Set<String> dividedBy = new TreeSet<>();
    private final Set<String> types = new TreeSet<>();
    private final Set<String> endless = new TreeSet<>();
    private final List<TypeElement> classes = new ArrayList<>();
    private String source;
    private Trees trees;

    private void read() throws Exception {
        source = Files.readString(SOURCE);
        JavaCompiler compiler = ToolProvider.getSystemJavaCompiler();
        try (StandardJavaFileManager files = compiler.getStandardFileManager(null, null, null)) {
            JavacTask task = (JavacTask) compiler.getTask(null, files, null, List.of("--release", "17"), null,
                    files.getJavaFileObjects(SOURCE));
            Iterable<? extends CompilationUnitTree> units = task.parse();
            task.analyze();
            trees = Trees.instance(task);
            for (CompilationUnitTree unit : units) {
                new Scanner(unit).scan(unit, null);
            }
        }
    }

    private final class Scanner extends TreePathScanner<Void, Void> {
        private final CompilationUnitTree unit;

        Scanner(CompilationUnitTree unit) {
            this.unit = unit;
        }

        private ExecutableElement around() {
            for (TreePath p = getCurrentPath(); p != null; p = p.getParentPath()) {
                if (p.getLeaf() instanceof MethodTree) {
                    return (ExecutableElement) trees.getElement(p);
                }
            }
            return null;
        }

        @Override
        public Void scan(Tree tree, Void nothing) {
            if (tree != null && FORBIDDEN.contains(tree.getKind())) {
                forbidden.add(tree.getKind() + " " + tree);
            }
            return super.scan(tree, nothing);
        }

        @Override
        public Void visitClass(ClassTree tree, Void nothing) {
            classes.add((TypeElement) trees.getElement(getCurrentPath()));
            return super.visitClass(tree, nothing);
        }

        @Override
        public Void visitMethod(MethodTree tree, Void nothing) {
            ExecutableElement method = (ExecutableElement) trees.getElement(getCurrentPath());
            calls.putIfAbsent(method, new LinkedHashSet<>());
            SourcePositions places = trees.getSourcePositions();
            LineMap map = unit.getLineMap();
            long first = map.getLineNumber(Math.max(0, places.getStartPosition(unit, tree)));
            lines.put(method, map.getLineNumber(Math.max(0, places.getEndPosition(unit, tree))) - first + 1);
            return super.visitMethod(tree, nothing);
        }

        @Override
        public Void visitMethodInvocation(MethodInvocationTree tree, Void nothing) {
            ExecutableElement called = (ExecutableElement) trees.getElement(getCurrentPath());
            ExecutableElement caller = around();
            String owner = called.getEnclosingElement().toString();
            if (owner.startsWith("java.")) {
                library.add(owner.substring(owner.lastIndexOf('.') + 1) + "." + called.getSimpleName());
            } else if (caller != null) {
                calls.computeIfAbsent(caller, k -> new LinkedHashSet<>()).add(called);
            }
            return super.visitMethodInvocation(tree, nothing);
        }

        private void noteMade(Tree tree) {
            ExecutableElement method = around();
            if (method != null && method.getKind() != ElementKind.CONSTRUCTOR) {
                made.add(tree + " in " + method);
            }
        }

        @Override
        public Void visitNewClass(NewClassTree tree, Void nothing) {
            noteMade(tree);
            if (tree.getClassBody() != null) {
                forbidden.add("anonymous class " + tree);
            }
            return super.visitNewClass(tree, nothing);
        }

        @Override
        public Void visitNewArray(NewArrayTree tree, Void nothing) {
            noteMade(tree);
            return super.visitNewArray(tree, nothing);
        }

        @Override
        public Void visitVariable(VariableTree tree, Void nothing) {
            types.add(tree.getType().toString());
            return super.visitVariable(tree, nothing);
        }

        @Override
        public Void visitForLoop(ForLoopTree tree, Void nothing) {
            noteLoop(tree.getCondition());
            return super.visitForLoop(tree, nothing);
        }

        @Override
        public Void visitWhileLoop(WhileLoopTree tree, Void nothing) {
            noteLoop(tree.getCondition());
            return super.visitWhileLoop(tree, nothing);
        }

        @Override
        public Void visitDoWhileLoop(DoWhileLoopTree tree, Void nothing) {
            noteLoop(tree.getCondition());
            return super.visitDoWhileLoop(tree, nothing);
        }

        private void noteLoop(ExpressionTree condition) {
            if (condition == null || !isBounded(condition)) {
                endless.add(String.valueOf(condition));
            }
        }

        @Override
        public Void visitBinary(BinaryTree tree, Void nothing) {
            if (tree.getKind() == Tree.Kind.DIVIDE || tree.getKind() == Tree.Kind.REMAINDER) {
                dividedBy.add(tree.getRightOperand().toString());
            }
            if (trees.getTypeMirror(getCurrentPath()).getKind() == TypeKind.DECLARED) {
                forbidden.add("joined texts " + tree);
            }
            return super.visitBinary(tree, nothing);
        }
    }

    /** Whether the loop ends at the latest where a counter meets its bound. */
    private static boolean isBounded(ExpressionTree condition) {
        if (condition instanceof ParenthesizedTree inner) {
            return isBounded(inner.getExpression());
        }
        if (condition.getKind() == Tree.Kind.CONDITIONAL_AND) {
            BinaryTree both = (BinaryTree) condition;
            return isBounded(both.getLeftOperand()) || isBounded(both.getRightOperand());
        }
        boolean compares = COMPARISONS.contains(condition.getKind());
        return compares && ((BinaryTree) condition).getLeftOperand() instanceof IdentifierTree;
    }

    private static String className(Element e) {
        return e.getSimpleName().toString();
    }

    private static List<String> face() throws Exception {
        String text = Files.readString(Document.PLACE);
        int start = text.indexOf("```java");
        String block = text.substring(start, text.indexOf("```", start + 7));
        List<String> face = new ArrayList<>();
        for (String line : block.split("\n")) {
            String trimmed = line.trim();
            if (trimmed.startsWith("public ") && trimmed.endsWith(";")) {
                face.add(trimmed.substring(0, trimmed.length() - 1));
            }
        }
        return face;
    }

    /** The head of every public member as it stands in the source, without what comes behind it. */
    private List<String> ownFace() {
        List<String> face = new ArrayList<>();
        for (String line : source.split("\n")) {
            String trimmed = line.trim();
            if (trimmed.startsWith("public ") && !trimmed.startsWith("public final class")) {
                face.add(trimmed.replaceAll("( \\{|;)$", ""));
            }
        }
        return face;
    }

    private int depth(ExecutableElement method, Set<ExecutableElement> open) {
        int deepest = 0;
        if (open.add(method)) {
            for (ExecutableElement called : calls.getOrDefault(method, Set.of())) {
                if (!open.contains(called)) {
                    deepest = Math.max(deepest, depth(called, open));
                }
            }
            open.remove(method);
        }
        return deepest + 1;
    }

    private boolean reaches(ExecutableElement from, ExecutableElement to, Set<ExecutableElement> seen) {
        for (ExecutableElement called : calls.getOrDefault(from, Set.of())) {
            if (called.equals(to) || seen.add(called) && reaches(called, to, seen)) {
                return true;
            }
        }
        return false;
    }

    private void checkFace() {
        check.test("rule 1: the face is the document's", c -> {
            List<String> due = face();
            List<String> own = ownFace();
            c.same("members", own.size(), due.size());
            for (String member : due) {
                c.truth("missing: " + member, own.contains(member));
            }
        });
        check.test("rule 1: what is not public is private", c -> {
            for (Element e : classes.get(0).getEnclosedElements()) {
                boolean fits = e.getModifiers().contains(Modifier.PUBLIC)
                        || e.getModifiers().contains(Modifier.PRIVATE);
                c.truth(e + " is neither", fits);
            }
        });
        check.test("rule 1: no private method bears the name of a public one", c -> {
            Set<String> open = new HashSet<>();
            for (ExecutableElement m : calls.keySet()) {
                if (m.getModifiers().contains(Modifier.PUBLIC)) {
                    open.add(className(m));
                }
            }
            for (ExecutableElement m : calls.keySet()) {
                boolean hidden = m.getKind() == ElementKind.METHOD
                        && m.getModifiers().contains(Modifier.PRIVATE);
                c.truth(m + " in " + m.getEnclosingElement(), !hidden || !open.contains(className(m)));
            }
        });
        check.test("rule 2: classes inside are static, and stand in the public one", c -> {
            for (TypeElement type : classes.subList(1, classes.size())) {
                c.truth(type + " is static", type.getModifiers().contains(Modifier.STATIC));
                c.truth(type + " stands inside", type.getEnclosingElement().equals(classes.get(0)));
            }
        });
    }

    private void checkWords() {
        check.test("rule 3: types", c -> {
            Set<String> allowed = new HashSet<>(Set.of("int", "long", "boolean", "String", "int[]", "boolean[]",
                    "byte[]"));
            for (TypeElement type : classes) {
                allowed.add(className(type));
                allowed.add(className(type) + "[]");
            }
            for (String type : types) {
                c.truth("type " + type, allowed.contains(type));
            }
        });
        check.test("rule 4: the library", c -> {
            for (String call : library) {
                // A constructor that names no other one calls Object's.
                c.truth("call of " + call, LIBRARY.contains(call) || call.equals("Object.<init>"));
            }
        });
        check.test("rule 5: static fields are constants", c -> {
            for (TypeElement type : classes) {
                for (Element e : type.getEnclosedElements()) {
                    boolean isStatic = e.getKind() == ElementKind.FIELD && e.getModifiers().contains(Modifier.STATIC);
                    c.truth(e + " in " + type, !isStatic
                            || ((javax.lang.model.element.VariableElement) e).getConstantValue() != null);
                    c.truth("static block in " + type, e.getKind() != ElementKind.STATIC_INIT);
                }
            }
        });
        check.test("rules 2, 6, 10: nothing that is forbidden", c -> {
            for (String what : forbidden) {
                c.truth(what, false);
            }
        });
        check.test("rule 7: every divisor is a number that stands there", c -> {
            for (String divisor : dividedBy) {
                c.truth("divided by " + divisor, divisor.matches("[1-9][0-9]*"));
            }
        });
        check.test("rule 9: every loop holds a counter against a bound", c -> {
            for (String condition : endless) {
                c.truth("loop while " + condition, false);
            }
        });
        check.test("rule 12: only constructors make objects and arrays", c -> {
            for (String what : made) {
                c.truth(what, false);
            }
        });
        check.test("plain characters alone", c -> c.truth("another sign", source.matches("[\\x0a\\x20-\\x7e]*")));
    }

    private void checkSizes() {
        check.test("rule 8: one private static method calls itself, and no others one another", c -> {
            for (ExecutableElement m : calls.keySet()) {
                boolean again = reaches(m, m, new HashSet<>());
                c.truth(m + " comes back to itself", !again || className(m).equals("tryFrom")
                        && m.getModifiers().containsAll(Set.of(Modifier.PRIVATE, Modifier.STATIC)));
            }
        });
        check.test("rule 11: at most seven parameters, sixty lines", c -> {
            for (ExecutableElement m : calls.keySet()) {
                c.truth(m + " has too many parameters", m.getParameters().size() <= 7);
                c.truth(m + " is too long", lines.get(m) <= 60);
            }
        });
        check.test("rule 11: calls at most eight deep", c -> {
            for (ExecutableElement m : calls.keySet()) {
                int deep = depth(m, new HashSet<>());
                c.truth(m + " goes " + deep + " deep", deep <= DEEPEST);
            }
        });
        check.test("rule 11: at most twelve classes, of twenty fields", c -> {
            c.truth(classes.size() + " classes", classes.size() <= 12);
            for (TypeElement type : classes) {
                long fields = type.getEnclosedElements().stream().filter(e -> e.getKind() == ElementKind.FIELD
                        && !e.getModifiers().contains(Modifier.STATIC)).count();
                c.truth(type + " has " + fields + " fields", fields <= 20);
            }
        });
    }

    public static void main(String[] args) throws Exception {
        LanguageTest tests = new LanguageTest();
        tests.read();
        tests.checkFace();
        tests.checkWords();
        tests.checkSizes();
        tests.check.close();
    }
}
