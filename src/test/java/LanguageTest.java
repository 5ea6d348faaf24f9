import com.sun.source.tree.BinaryTree;
import com.sun.source.tree.BlockTree;
import com.sun.source.tree.ClassTree;
import com.sun.source.tree.CompilationUnitTree;
import com.sun.source.tree.ForLoopTree;
import com.sun.source.tree.LineMap;
import com.sun.source.tree.MethodInvocationTree;
import com.sun.source.tree.MethodTree;
import com.sun.source.tree.NewArrayTree;
import com.sun.source.tree.NewClassTree;
import com.sun.source.tree.Tree;
import com.sun.source.tree.TypeCastTree;
import com.sun.source.tree.UnaryTree;
import com.sun.source.tree.VariableTree;
import com.sun.source.util.JavacTask;
import com.sun.source.util.SourcePositions;
import com.sun.source.util.TreePath;
import com.sun.source.util.TreePathScanner;
import com.sun.source.util.Trees;
import java.io.IOException;
import java.nio.file.Files;
import java.nio.file.Path;
import java.util.EnumSet;
import java.util.List;
import java.util.Map;
import java.util.Set;
import java.util.TreeMap;
import java.util.TreeSet;
import javax.lang.model.element.Element;
import javax.lang.model.element.ElementKind;
import javax.lang.model.element.Modifier;
import javax.tools.JavaCompiler;
import javax.tools.StandardJavaFileManager;
import javax.tools.ToolProvider;

/** LANGUAGE.md, rules 1 to 13, as far as they can be seen in the source; each fault is told with its rule. */
public final class LanguageTest {
    private static final Check C = new Check("LanguageTest");
    private static final Path SOURCE = Path.of("src/main/java/DoorBell.java");
    private static final int MOST_LINES = 60, MOST_DEEP = 8, MOST_CLASSES = 12, MOST_FIELDS = 20, MOST_PARAMETERS = 7;
    /** Less than rules 3 and 4 allow: what this class makes use of, so that more is looked at when it comes. */
    private static final Set<String> TYPES = Set.of("void", "int", "long", "boolean", "int[]");
    private static final Set<String> LIBRARY = Set.of("java.lang.Math.max", "java.lang.Math.min",
        "java.lang.Integer.bitCount", "java.lang.System.arraycopy");
    private static final Set<String> STATIC_TYPES = Set.of("int", "long", "boolean", "char", "String", "int[]", "long[]",
        "char[]", "byte[]");
    private static final EnumSet<Tree.Kind> RULED_OUT = EnumSet.of(Tree.Kind.LAMBDA_EXPRESSION,
        Tree.Kind.MEMBER_REFERENCE, Tree.Kind.THROW, Tree.Kind.TRY, Tree.Kind.CATCH, Tree.Kind.SYNCHRONIZED,
        Tree.Kind.ASSERT, Tree.Kind.IMPORT, Tree.Kind.PACKAGE, Tree.Kind.ANNOTATION, Tree.Kind.INSTANCE_OF,
        Tree.Kind.WHILE_LOOP, Tree.Kind.DO_WHILE_LOOP, Tree.Kind.STRING_LITERAL, Tree.Kind.DOUBLE_LITERAL,
        Tree.Kind.FLOAT_LITERAL);

    private static final Set<String> own = new TreeSet<>();
    private static final Map<String, Set<String>> callees = new TreeMap<>();
    private static final Set<String> publicNames = new TreeSet<>();
    private static CompilationUnitTree unit;
    private static Trees trees;

    public static void main(String[] args) throws IOException {
        JavaCompiler compiler = ToolProvider.getSystemJavaCompiler();
        try (StandardJavaFileManager files = compiler.getStandardFileManager(null, null, null)) {
            JavacTask task = (JavacTask) compiler.getTask(null, files, null, List.of("-proc:none"), null,
                files.getJavaFileObjects(SOURCE));
            unit = task.parse().iterator().next();
            task.analyze();
            trees = Trees.instance(task);
            new Names().scan(unit, null);
            new Rules().scan(unit, null);
        }
        need(11, own.size() > 1 && own.size() <= MOST_CLASSES, "there are " + own.size() + " classes", null);
        depths();
        signs();
        C.end();
    }

    private static void need(int rule, boolean holds, String what, Tree where) {
        SourcePositions at = trees.getSourcePositions();
        LineMap lines = unit.getLineMap();
        String line = where == null ? "" : " in line " + lines.getLineNumber(at.getStartPosition(unit, where));
        C.due("rule " + rule + ": " + what + line, holds ? 1 : 0, 1);
    }

    /** What is known ahead of all else: the classes of the file, and the names of the public methods. */
    private static final class Names extends TreePathScanner<Void, Void> {
        @Override
        public Void visitClass(ClassTree tree, Void none) {
            own.add(tree.getSimpleName().toString());
            return super.visitClass(tree, none);
        }

        @Override
        public Void visitMethod(MethodTree tree, Void none) {
            if (tree.getModifiers().getFlags().contains(Modifier.PUBLIC)) {
                publicNames.add(tree.getName().toString());
            }
            return super.visitMethod(tree, none);
        }
    }

    private static final class Rules extends TreePathScanner<Void, Void> {
        @Override
        public Void scan(Tree tree, Void none) {
            need(6, tree == null || !RULED_OUT.contains(tree.getKind()), "no " + (tree == null ? "" : tree.getKind()), tree);
            return super.scan(tree, none);
        }

        @Override
        public Void visitClass(ClassTree tree, Void none) {
            Set<Modifier> flags = tree.getModifiers().getFlags();
            boolean isOuter = tree.getSimpleName().contentEquals("DoorBell");
            boolean isInside = getCurrentPath().getParentPath().getLeaf() instanceof ClassTree;
            need(2, isOuter || isInside && flags.contains(Modifier.STATIC), "a class inside is static", tree);
            need(1, isOuter == flags.contains(Modifier.PUBLIC), "one class is public", tree);
            int fields = 0;
            for (Tree member : tree.getMembers()) {
                need(5, !(member instanceof BlockTree), "no initialiser block", member);
                boolean isField = member instanceof VariableTree;
                if (isField && !((VariableTree) member).getModifiers().getFlags().contains(Modifier.STATIC)) {
                    fields++;
                }
            }
            need(11, fields <= MOST_FIELDS, "fields", tree);
            return super.visitClass(tree, none);
        }

        @Override
        public Void visitVariable(VariableTree tree, Void none) {
            String type = tree.getType().toString();
            Set<Modifier> flags = tree.getModifiers().getFlags();
            String element = type.endsWith("[]") ? type.substring(0, type.length() - 2) : type;
            need(3, TYPES.contains(type) || own.contains(element), "a type as told, not " + type, tree);
            if (flags.contains(Modifier.STATIC)) {
                need(5, flags.contains(Modifier.FINAL), "static fields are final", tree);
                need(5, STATIC_TYPES.contains(type), "static fields are numbers or rows of them", tree);
                boolean isWrittenOut = !type.endsWith("[]") || tree.getInitializer() instanceof NewArrayTree;
                need(5, tree.getInitializer() != null && isWrittenOut, "static fields are written out", tree);
            }
            return super.visitVariable(tree, none);
        }

        @Override
        public Void visitMethod(MethodTree tree, Void none) {
            boolean isConstructor = tree.getReturnType() == null;
            boolean isPublic = tree.getModifiers().getFlags().contains(Modifier.PUBLIC);
            String name = tree.getName().toString();
            need(1, isConstructor || isPublic || !publicNames.contains(name), name + " is no public name", tree);
            need(3, isConstructor || TYPES.contains(tree.getReturnType().toString()), name + " gives", tree);
            need(11, tree.getParameters().size() <= MOST_PARAMETERS, name + " takes", tree);
            need(11, linesOf(tree) <= MOST_LINES, name + " has " + linesOf(tree) + " lines", tree);
            callees.computeIfAbsent(nameOf(getCurrentPath()), key -> new TreeSet<>());
            return super.visitMethod(tree, none);
        }

        private static long linesOf(Tree tree) {
            SourcePositions at = trees.getSourcePositions();
            LineMap lines = unit.getLineMap();
            return lines.getLineNumber(Math.max(0, at.getEndPosition(unit, tree)))
                - lines.getLineNumber(Math.max(0, at.getStartPosition(unit, tree))) + 1;
        }

        @Override
        public Void visitMethodInvocation(MethodInvocationTree tree, Void none) {
            Element called = trees.getElement(getCurrentPath());
            String name = called.getEnclosingElement() + "." + called.getSimpleName();
            boolean isOwn = own.contains(called.getEnclosingElement().getSimpleName().toString());
            boolean isOfObject = name.equals("java.lang.Object.<init>");
            need(4, isOwn || isOfObject || LIBRARY.contains(name), "no " + name, tree);
            MethodTree within = methodAround();
            if (within != null && isOwn) {
                callees.get(nameOf(trees.getPath(unit, within))).add(name);
            }
            need(12, within == null || within.getReturnType() != null || isOfObject, "a constructor calls none", tree);
            return super.visitMethodInvocation(tree, none);
        }

        private MethodTree methodAround() {
            for (TreePath path = getCurrentPath(); path != null; path = path.getParentPath()) {
                if (path.getLeaf() instanceof MethodTree) {
                    return (MethodTree) path.getLeaf();
                }
            }
            return null;
        }

        private static String nameOf(TreePath method) {
            Element element = trees.getElement(method);
            return element.getEnclosingElement() + "." + element.getSimpleName();
        }

        @Override
        public Void visitNewClass(NewClassTree tree, Void none) {
            need(2, tree.getClassBody() == null, "no class without a name", tree);
            need(12, isAtTheBeginning(), "objects are made in constructors and fields alone", tree);
            return super.visitNewClass(tree, none);
        }

        @Override
        public Void visitNewArray(NewArrayTree tree, Void none) {
            need(12, isAtTheBeginning(), "arrays are made in fields alone", tree);
            return super.visitNewArray(tree, none);
        }

        private boolean isAtTheBeginning() {
            MethodTree within = methodAround();
            return within == null || within.getReturnType() == null;
        }

        @Override
        public Void visitTypeCast(TypeCastTree tree, Void none) {
            need(6, Set.of("int", "byte", "short").contains(tree.getType().toString()), "casts of numbers alone", tree);
            return super.visitTypeCast(tree, none);
        }

        @Override
        public Void visitForLoop(ForLoopTree tree, Void none) {
            need(9, tree.getCondition() != null && !tree.getUpdate().isEmpty(), "a loop has a bound", tree);
            boolean isCounted = tree.getInitializer().size() == 1
                && tree.getInitializer().get(0) instanceof VariableTree;
            need(9, isCounted, "a loop has a counter of its own", tree);
            if (isCounted) {
                String counter = ((VariableTree) tree.getInitializer().get(0)).getName().toString();
                need(9, tree.getCondition().toString().contains(counter + " <"), "the counter has a bound", tree);
                need(9, tree.getUpdate().get(0).toString().startsWith(counter), "the counter goes on", tree);
                new Unchanged(counter).scan(tree.getStatement(), null);
            }
            return super.visitForLoop(tree, none);
        }

        @Override
        public Void visitBinary(BinaryTree tree, Void none) {
            boolean isDivision = tree.getKind() == Tree.Kind.DIVIDE || tree.getKind() == Tree.Kind.REMAINDER;
            if (isDivision) {
                String divisor = tree.getRightOperand().toString();
                // Numbers above 0, constants above 0, and the three divisors that are looked at in their own lines.
                need(7, Set.of("doors", "rest", "shared", "MOST_ACTS", "2147483647L", "2", "3", "6").contains(divisor),
                    "a divisor that is known: " + divisor, tree);
            }
            return super.visitBinary(tree, none);
        }
    }

    /** That the body of a loop leaves the loop's counter alone. */
    private static final class Unchanged extends TreePathScanner<Void, Void> {
        private final String counter;

        Unchanged(String counter) {
            this.counter = counter;
        }

        @Override
        public Void scan(Tree tree, Void none) {
            if (tree != null) {
                String text = tree.toString();
                boolean isStep = tree instanceof UnaryTree && !tree.getKind().name().startsWith("UNARY")
                    && text.replaceAll("[-+]", "").equals(counter);
                boolean isPut = tree.getKind().name().contains("ASSIGNMENT") && text.matches(counter + " \\W*= .*");
                need(9, !isStep && !isPut, "the counter " + counter + " is left alone", tree);
            }
            return tree == null ? null : tree.accept(this, none);
        }
    }

    /** Rules 8 and 11: one method alone calls itself, and no way through the others is deeper than eight. */
    private static void depths() {
        for (String method : callees.keySet()) {
            boolean isItself = callees.get(method).contains(method);
            need(8, isItself == method.equals("DoorBell.Asker.give"), method + " calls itself: " + isItself, null);
            int deep = depth(method, 0);
            need(11, deep <= MOST_DEEP, method + " goes " + deep + " deep", null);
        }
        need(8, callees.get("DoorBell.street").contains("DoorBell.Reader.readInto"), "calls are seen", null);
        need(11, depth("DoorBell.sleeps", 0) >= 7, "depths are seen", null);
    }

    private static int depth(String method, int above) {
        int deepest = 0;
        for (String next : callees.getOrDefault(method, Set.of())) {
            if (!next.equals(method) && above < 20) {
                deepest = Math.max(deepest, depth(next, above + 1));
            }
        }
        return 1 + deepest;
    }

    private static void signs() throws IOException {
        String text = Files.readString(SOURCE);
        boolean isPlain = text.chars().allMatch(c -> c == '\n' || c >= 32 && c < 127);
        need(4, isPlain, "signs are 32 to 126", null);
        need(1, publicNames.size() == 34, "33 calls and a constructor", null);
        need(2, own.contains("DoorBell"), "the class of the document", null);
        Element outer = trees.getElement(new TreePath(new TreePath(unit), unit.getTypeDecls().get(0)));
        for (Element member : outer.getEnclosedElements()) {
            boolean isHidden = member.getModifiers().contains(Modifier.PRIVATE);
            boolean isFace = member.getModifiers().contains(Modifier.PUBLIC);
            boolean isClass = member.getKind() == ElementKind.CLASS;
            need(1, isHidden || isFace && !isClass, member + " is private or of the face", null);
        }
    }
}
