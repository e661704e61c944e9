import com.sun.source.tree.AssertTree;
import com.sun.source.tree.BinaryTree;
import com.sun.source.tree.BlockTree;
import com.sun.source.tree.CatchTree;
import com.sun.source.tree.ClassTree;
import com.sun.source.tree.CompilationUnitTree;
import com.sun.source.tree.DoWhileLoopTree;
import com.sun.source.tree.ExpressionTree;
import com.sun.source.tree.ForLoopTree;
import com.sun.source.tree.ImportTree;
import com.sun.source.tree.LambdaExpressionTree;
import com.sun.source.tree.LiteralTree;
import com.sun.source.tree.MemberReferenceTree;
import com.sun.source.tree.MethodInvocationTree;
import com.sun.source.tree.MethodTree;
import com.sun.source.tree.NewArrayTree;
import com.sun.source.tree.NewClassTree;
import com.sun.source.tree.SynchronizedTree;
import com.sun.source.tree.ThrowTree;
import com.sun.source.tree.Tree;
import com.sun.source.tree.TryTree;
import com.sun.source.tree.VariableTree;
import com.sun.source.tree.WhileLoopTree;
import com.sun.source.util.JavacTask;
import com.sun.source.util.TreePath;
import com.sun.source.util.TreePathScanner;
import com.sun.source.util.Trees;
import java.nio.file.Path;
import java.util.ArrayList;
import java.util.HashMap;
import java.util.HashSet;
import java.util.LinkedHashMap;
import java.util.List;
import java.util.Map;
import java.util.Set;
import java.util.TreeSet;
import javax.lang.model.element.Element;
import javax.lang.model.element.ElementKind;
import javax.lang.model.element.ExecutableElement;
import javax.lang.model.element.Modifier;
import javax.lang.model.element.VariableElement;
import javax.lang.model.type.TypeMirror;
import javax.tools.JavaCompiler;
import javax.tools.StandardJavaFileManager;
import javax.tools.ToolProvider;

/** What ../shared/LANGUAGE.md asks of the class's text, as far as it can be seen without running it. */
public final class LanguageTest {
    private static final Set<String> IMPORTS = Set.of("java.util.ArrayList", "java.util.List", "java.util.Iterator",
        "java.util.Arrays", "java.util.NoSuchElementException");
    private static final Set<String> TYPES = Set.of("int", "long", "short", "byte", "char", "boolean", "double", "float",
        "java.lang.String", "java.lang.StringBuilder", "java.lang.Integer");
    private static final Set<String> CONSTANTS = Set.of("int", "long", "boolean", "char", "java.lang.String");
    private static final Set<String> THROWN = Set.of("IllegalStateException", "IllegalArgumentException",
        "IndexOutOfBoundsException", "ArithmeticException", "UnsupportedOperationException", "NoSuchElementException",
        "RuntimeException");
    private static final Map<String, Set<String>> LIBRARY = Map.of(
        "java.lang.String", Set.of("length", "charAt", "isEmpty", "equals", "indexOf", "substring", "toCharArray"),
        "java.lang.StringBuilder", Set.of("append", "charAt", "setCharAt", "setLength", "deleteCharAt", "reverse", "length",
            "toString"),
        "java.util.ArrayList", Set.of("add", "get", "set", "remove", "size", "isEmpty", "clear"),
        "java.util.List", Set.of("add", "get", "set", "remove", "size", "isEmpty", "clear", "of"),
        "java.lang.Math", Set.of("max", "min", "abs", "floorDiv", "floorMod"),
        "java.lang.Integer", Set.of("compare", "max", "min", "bitCount"),
        "java.lang.Long", Set.of("compare", "max", "min", "bitCount"),
        "java.lang.System", Set.of("arraycopy"),
        "java.util.Arrays", Set.of("copyOf", "copyOfRange", "fill"));
    private static final int MOST_PARAMETERS = 7;
    private static final int MOST_LINES = 60;
    private static final int MOST_CLASSES = 12;
    private static final int MOST_FIELDS = 20;
    private static final int MOST_DEEP = 8;

    public static void main(String[] args) throws Exception {
        Path source = Path.of(args.length > 0 ? args[0] : "src/main/java/DrawerWall.java");
        JavaCompiler compiler = ToolProvider.getSystemJavaCompiler();
        try (StandardJavaFileManager files = compiler.getStandardFileManager(null, null, null)) {
            JavacTask task = (JavacTask) compiler.getTask(null, files, null, List.of("-proc:none"), null,
                files.getJavaFileObjects(source));
            List<CompilationUnitTree> units = new ArrayList<>();
            task.parse().forEach(units::add);
            task.analyze();
            Calls calls = new Calls();
            Look look = new Look(Trees.instance(task), calls);
            for (CompilationUnitTree unit : units) {
                look.scan(unit, null);
            }
            look.end();
            calls.end();
        }
        Checks.end();
    }

    private static void rule(int number, String what, boolean holds) {
        Checks.same("rule " + number + ": " + what + ": holds", holds, true);
    }

    /** Which of the class's own methods calls which. */
    private static final class Calls {
        private final Map<ExecutableElement, Set<ExecutableElement>> called = new LinkedHashMap<>();
        private final Map<ExecutableElement, Set<ExecutableElement>> everCalled = new HashMap<>();

        void add(ExecutableElement from, ExecutableElement to) {
            called.computeIfAbsent(from, key -> new HashSet<>()).add(to);
        }

        private Set<ExecutableElement> from(ExecutableElement method) {
            return called.getOrDefault(method, Set.of());
        }

        private Set<ExecutableElement> everFrom(ExecutableElement method) {
            return everCalled.computeIfAbsent(method, key -> {
                Set<ExecutableElement> ever = new HashSet<>();
                List<ExecutableElement> open = new ArrayList<>(from(method));
                while (!open.isEmpty()) {
                    ExecutableElement next = open.remove(open.size() - 1);
                    if (ever.add(next)) {
                        open.addAll(from(next));
                    }
                }
                return ever;
            });
        }

        private boolean isOneCircle(ExecutableElement a, ExecutableElement b) {
            return a.equals(b) || everFrom(a).contains(b) && everFrom(b).contains(a);
        }

        /** How deep calls go from a method on; those of a recursion count once. */
        private int depth(ExecutableElement method) {
            Set<ExecutableElement> circle = new HashSet<>(everFrom(method));
            circle.removeIf(other -> !isOneCircle(method, other));
            circle.add(method);
            int deepest = 0;
            for (ExecutableElement inside : circle) {
                for (ExecutableElement next : from(inside)) {
                    deepest = circle.contains(next) ? deepest : Math.max(deepest, depth(next));
                }
            }
            return 1 + deepest;
        }

        void end() {
            for (ExecutableElement method : called.keySet()) {
                boolean calls = everFrom(method).contains(method);
                rule(8, method + " is private, as it calls itself by others", !calls || isPrivate(method));
                rule(11, method + " is at most eight calls deep, not " + depth(method), depth(method) <= MOST_DEEP);
            }
        }
    }

    private static boolean isPrivate(Element element) {
        return element.getModifiers().contains(Modifier.PRIVATE);
    }

    private static final class Look extends TreePathScanner<Void, Void> {
        private final Trees trees;
        private final Calls calls;
        private final Set<String> publicNames = new TreeSet<>();
        private final Set<String> privateNames = new TreeSet<>();
        private int classes;
        private int loops;
        private ExecutableElement method;

        Look(Trees trees, Calls calls) {
            this.trees = trees;
            this.calls = calls;
        }

        void end() {
            rule(11, "at most some twelve classes, not " + classes, classes <= MOST_CLASSES);
            for (String name : privateNames) {
                rule(1, "no private method is named " + name + " as a public one is", !publicNames.contains(name));
            }
        }

        private Element here() {
            return trees.getElement(getCurrentPath());
        }

        private TypeMirror typeOf(Tree tree) {
            return trees.getTypeMirror(new TreePath(getCurrentPath(), tree));
        }

        private static boolean isOwn(String type) {
            return type.equals("DrawerWall") || type.startsWith("DrawerWall.");
        }

        private static String plain(TypeMirror type) {
            return type.toString().replaceAll("<.*>", "").replace("[]", "");
        }

        @Override
        public Void visitImport(ImportTree tree, Void none) {
            rule(4, tree.toString().trim(), IMPORTS.contains(tree.getQualifiedIdentifier().toString()));
            return super.visitImport(tree, none);
        }

        @Override
        public Void visitClass(ClassTree tree, Void none) {
            classes++;
            Element element = here();
            boolean isInside = element.getEnclosingElement().getKind().isClass();
            rule(2, element + " stands in a class or in the file", isInside
                || element.getEnclosingElement().getKind() == ElementKind.PACKAGE);
            rule(1, element + " inside is static and hidden", !isInside || element.getModifiers().contains(Modifier.STATIC)
                && !element.getModifiers().contains(Modifier.PUBLIC) && !element.getModifiers().contains(Modifier.PROTECTED));
            int fields = 0;
            for (Element member : element.getEnclosedElements()) {
                boolean isStatic = member.getModifiers().contains(Modifier.STATIC);
                fields += member.getKind() == ElementKind.FIELD && !isStatic ? 1 : 0;
            }
            rule(11, element + " has at most some twenty fields, not " + fields, fields <= MOST_FIELDS);
            return super.visitClass(tree, none);
        }

        @Override
        public Void visitBlock(BlockTree tree, Void none) {
            rule(5, "no static block", !tree.isStatic());
            return super.visitBlock(tree, none);
        }

        @Override
        public Void visitVariable(VariableTree tree, Void none) {
            VariableElement element = (VariableElement) here();
            String type = plain(element.asType());
            rule(3, element + " is of a type that is told: " + type, TYPES.contains(type) || isOwn(type)
                || type.equals("java.util.List") || type.equals("java.util.ArrayList") || THROWN.contains(simple(type)));
            if (element.getKind() == ElementKind.FIELD && element.getModifiers().contains(Modifier.STATIC)) {
                boolean isWritten = element.getConstantValue() != null && CONSTANTS.contains(type)
                    || tree.getInitializer() instanceof NewArrayTree row && row.getInitializers() != null;
                rule(5, element + " is a constant", element.getModifiers().contains(Modifier.FINAL) && isWritten);
            }
            return super.visitVariable(tree, none);
        }

        private static String simple(String type) {
            return type.substring(type.lastIndexOf('.') + 1);
        }

        @Override
        public Void visitMethod(MethodTree tree, Void none) {
            ExecutableElement outer = method;
            method = (ExecutableElement) here();
            if (method.getKind() == ElementKind.METHOD) {
                boolean isPublic = method.getModifiers().contains(Modifier.PUBLIC);
                (isPublic ? publicNames : privateNames).add(method.getSimpleName().toString());
            }
            long lines = tree.getBody() == null ? 0 : tree.getBody().toString().lines().count();
            rule(11, method + " is short, not " + lines, lines <= MOST_LINES);
            rule(11, method + " takes few parameters", tree.getParameters().size() <= MOST_PARAMETERS);
            super.visitMethod(tree, none);
            method = outer;
            return null;
        }

        @Override
        public Void visitMethodInvocation(MethodInvocationTree tree, Void none) {
            ExecutableElement called = (ExecutableElement) here();
            String owner = plain(called.getEnclosingElement().asType());
            String name = called.getSimpleName().toString();
            if (isOwn(owner)) {
                if (method != null) {
                    calls.add(method, called);
                }
            } else if (called.getKind() == ElementKind.METHOD) {
                rule(4, owner + "." + name, LIBRARY.getOrDefault(owner, Set.of()).contains(name)
                    || owner.equals("Array") && name.equals("clone"));
            }
            return super.visitMethodInvocation(tree, none);
        }

        @Override
        public Void visitNewClass(NewClassTree tree, Void none) {
            ExecutableElement made = (ExecutableElement) here();
            String type = plain(made.getEnclosingElement().asType());
            boolean isThrown = getCurrentPath().getParentPath().getLeaf() instanceof ThrowTree;
            rule(3, "new " + type, isOwn(type) || isThrown || type.equals("java.lang.StringBuilder")
                || type.equals("java.lang.String") || type.equals("java.util.ArrayList"));
            rule(12, "none made in a loop: " + type, loops == 0 || isThrown);
            if (isOwn(type) && method != null) {
                calls.add(method, made);
            }
            return super.visitNewClass(tree, none);
        }

        @Override
        public Void visitNewArray(NewArrayTree tree, Void none) {
            rule(12, "no row made in a loop: " + tree, loops == 0);
            return super.visitNewArray(tree, none);
        }

        @Override
        public Void visitThrow(ThrowTree tree, Void none) {
            rule(6, "no throw in a constructor", method == null || method.getKind() == ElementKind.METHOD);
            boolean isNew = tree.getExpression() instanceof NewClassTree;
            rule(6, tree + " throws a new one", isNew);
            if (isNew) {
                NewClassTree made = (NewClassTree) tree.getExpression();
                rule(6, tree + " throws one that is told", THROWN.contains(made.getIdentifier().toString()));
                List<? extends ExpressionTree> with = made.getArguments();
                rule(6, tree + " has a written text or none", with.isEmpty()
                    || with.size() == 1 && with.get(0) instanceof LiteralTree);
            }
            return super.visitThrow(tree, none);
        }

        @Override
        public Void visitTry(TryTree tree, Void none) {
            rule(6, "no finally", tree.getFinallyBlock() == null);
            rule(6, "no try with resources", tree.getResources().isEmpty());
            for (CatchTree part : tree.getCatches()) {
                rule(6, "catch " + part.getParameter(), THROWN.contains(part.getParameter().getType().toString()));
            }
            return super.visitTry(tree, none);
        }

        @Override
        public Void visitAssert(AssertTree tree, Void none) {
            rule(6, "no assert", false);
            return super.visitAssert(tree, none);
        }

        @Override
        public Void visitSynchronized(SynchronizedTree tree, Void none) {
            rule(6, "no synchronized", false);
            return super.visitSynchronized(tree, none);
        }

        @Override
        public Void visitLambdaExpression(LambdaExpressionTree tree, Void none) {
            rule(2, "no lambda", false);
            return super.visitLambdaExpression(tree, none);
        }

        @Override
        public Void visitMemberReference(MemberReferenceTree tree, Void none) {
            rule(2, "no method reference", false);
            return super.visitMemberReference(tree, none);
        }

        @Override
        public Void visitLiteral(LiteralTree tree, Void none) {
            if (tree.getValue() instanceof String text) {
                rule(4, text, text.chars().allMatch(sign -> sign >= 1 && sign <= 127));
            }
            return super.visitLiteral(tree, none);
        }

        @Override
        public Void visitBinary(BinaryTree tree, Void none) {
            boolean left = plain(typeOf(tree.getLeftOperand())).equals("java.lang.String");
            boolean right = plain(typeOf(tree.getRightOperand())).equals("java.lang.String");
            rule(10, "no text joined by +: " + tree, tree.getKind() != Tree.Kind.PLUS || !left && !right);
            boolean isSame = tree.getKind() == Tree.Kind.EQUAL_TO || tree.getKind() == Tree.Kind.NOT_EQUAL_TO;
            rule(6, "no == of texts: " + tree, !isSame || !left || !right);
            return super.visitBinary(tree, none);
        }

        private static void bounded(Tree loop, ExpressionTree condition) {
            boolean isOpen = condition == null || condition.toString().replaceAll("[()]", "").equals("true");
            rule(9, "an end is seen: " + loop.toString().lines().findFirst().orElse(""), !isOpen);
        }

        @Override
        public Void visitForLoop(ForLoopTree tree, Void none) {
            bounded(tree, tree.getCondition());
            loops++;
            super.visitForLoop(tree, none);
            loops--;
            return null;
        }

        @Override
        public Void visitWhileLoop(WhileLoopTree tree, Void none) {
            bounded(tree, tree.getCondition());
            loops++;
            super.visitWhileLoop(tree, none);
            loops--;
            return null;
        }

        @Override
        public Void visitDoWhileLoop(DoWhileLoopTree tree, Void none) {
            bounded(tree, tree.getCondition());
            loops++;
            super.visitDoWhileLoop(tree, none);
            loops--;
            return null;
        }
    }
}
