import com.sun.source.tree.BinaryTree;
import com.sun.source.tree.ClassTree;
import com.sun.source.tree.CompilationUnitTree;
import com.sun.source.tree.IdentifierTree;
import com.sun.source.tree.ImportTree;
import com.sun.source.tree.MemberSelectTree;
import com.sun.source.tree.MethodInvocationTree;
import com.sun.source.tree.MethodTree;
import com.sun.source.tree.ModifiersTree;
import com.sun.source.tree.NewArrayTree;
import com.sun.source.tree.NewClassTree;
import com.sun.source.tree.Tree;
import com.sun.source.tree.VariableTree;
import com.sun.source.util.JavacTask;
import com.sun.source.util.TreeScanner;
import com.sun.source.util.Trees;
import java.io.IOException;
import java.lang.reflect.Constructor;
import java.lang.reflect.Field;
import java.lang.reflect.Method;
import java.lang.reflect.Modifier;
import java.nio.charset.StandardCharsets;
import java.nio.file.Files;
import java.nio.file.Path;
import java.util.ArrayDeque;
import java.util.Arrays;
import java.util.Deque;
import java.util.HashMap;
import java.util.List;
import java.util.Map;
import java.util.Set;
import java.util.TreeSet;
import javax.lang.model.element.Name;
import javax.tools.JavaCompiler;
import javax.tools.StandardJavaFileManager;
import javax.tools.ToolProvider;

/** The rules of LANGUAGE.md that a reader of the source can test: face, forbidden forms, sizes, depth of calls. */
public final class LanguageTest {
    private static final Path SOURCE = Path.of("src/main/java/ClaimsFund.java");
    private static final Set<String> FACE = Set.of("fund", "feed", "end", "grid", "fault", "claim", "paper", "judge",
        "appeal", "out", "points", "lacks", "tell", "money", "fee", "lien", "heir", "wave", "finish", "sum", "count",
        "image", "again");
    private static final Set<Tree.Kind> FORBIDDEN = Set.of(Tree.Kind.THROW, Tree.Kind.TRY, Tree.Kind.CATCH,
        Tree.Kind.SYNCHRONIZED, Tree.Kind.ASSERT, Tree.Kind.LAMBDA_EXPRESSION, Tree.Kind.MEMBER_REFERENCE,
        Tree.Kind.ANNOTATION, Tree.Kind.SWITCH_EXPRESSION, Tree.Kind.TYPE_CAST);
    private static final Set<String> LIBRARY = Set.of("length", "charAt", "min", "max", "bitCount", "arraycopy");
    private static final Set<String> OWNERS = Set.of("Math", "Integer", "Long", "System");
    private static final Set<String> OBJECT = Set.of("equals", "hashCode", "toString", "finalize", "clone");
    private static final Set<String> STATICS = Set.of("int", "long", "boolean", "char", "String", "int[]", "long[]",
        "char[]", "byte[]");
    private static final Set<String> NUMBERS = Set.of("int", "long", "short", "byte", "char", "boolean", "void",
        "double", "float", "String");

    private LanguageTest() {
    }

    public static void main(String[] args) throws IOException {
        face();
        source();
        Check.end();
    }

    private static void wrong(String what) {
        Check.due(what, true, false);
    }

    private static void face() {
        Set<String> seen = new TreeSet<>();
        for (Method method : ClaimsFund.class.getDeclaredMethods()) {
            int modifiers = method.getModifiers();
            if (!Modifier.isPrivate(modifiers)) {
                seen.add(method.getName());
                Check.due(method + " is public", Modifier.isPublic(modifiers), true);
            } else if (FACE.contains(method.getName())) {
                wrong("a private method bears the name " + method.getName());
            }
        }
        Check.due("the methods " + seen, seen.equals(FACE), true);
        for (Field field : ClaimsFund.class.getDeclaredFields()) {
            boolean open = !Modifier.isPrivate(field.getModifiers());
            Check.due("open field " + field.getName(), open, field.getName().equals("NONE"));
        }
        int modifiers = ClaimsFund.class.getModifiers();
        Check.due("the class is public and final", Modifier.isPublic(modifiers) && Modifier.isFinal(modifiers), true);
        Constructor<?>[] made = ClaimsFund.class.getDeclaredConstructors();
        boolean one = made.length == 1 && Modifier.isPublic(made[0].getModifiers()) && made[0].getParameterCount() == 0;
        Check.due("one public constructor", one, true);
        for (Class<?> inside : ClaimsFund.class.getDeclaredClasses()) {
            Check.due(inside + " is static", Modifier.isStatic(inside.getModifiers()), true);
            Check.due(inside + " is public", Modifier.isPublic(inside.getModifiers()), false);
            long fields = Arrays.stream(inside.getDeclaredFields()).filter(f -> !f.isSynthetic()).count();
            Check.due("fields of " + inside + " above 20", fields > 20, false);
        }
    }

    private static void source() throws IOException {
        for (char sign : Files.readString(SOURCE, StandardCharsets.ISO_8859_1).toCharArray()) {
            if (sign != '\n' && (sign < 32 || sign > 126)) {
                wrong("sign " + (int) sign);
            }
        }
        JavaCompiler compiler = ToolProvider.getSystemJavaCompiler();
        try (StandardJavaFileManager files = compiler.getStandardFileManager(null, null, null)) {
            JavacTask task = (JavacTask) compiler.getTask(null, files, null, List.of("-proc:none"), null,
                files.getJavaFileObjects(SOURCE));
            CompilationUnitTree unit = task.parse().iterator().next();
            Reader reader = new Reader(unit, Trees.instance(task));
            reader.scan(unit, null);
            Check.due("classes above 12", reader.classes.size() > 12, false);
            reader.types();
            reader.depths();
        }
    }

    private static final class Reader extends TreeScanner<Void, Void> {
        private final CompilationUnitTree unit;
        private final Trees trees;
        private final Map<String, Set<String>> calls = new HashMap<>();
        private final Deque<String> within = new ArrayDeque<>();
        private final Set<String> classes = new TreeSet<>();
        private final Set<String> used = new TreeSet<>();

        Reader(CompilationUnitTree unit, Trees trees) {
            this.unit = unit;
            this.trees = trees;
        }

        private long line(Tree tree) {
            return unit.getLineMap().getLineNumber(trees.getSourcePositions().getStartPosition(unit, tree));
        }

        private long lines(Tree tree) {
            long end = trees.getSourcePositions().getEndPosition(unit, tree);
            return unit.getLineMap().getLineNumber(end) - line(tree) + 1;
        }

        @Override
        public Void scan(Tree tree, Void none) {
            boolean cast = tree != null && tree.getKind() == Tree.Kind.TYPE_CAST;
            if (tree != null && FORBIDDEN.contains(tree.getKind()) && !(cast && isNumberCast(tree))) {
                wrong(tree.getKind() + " in line " + line(tree));
            }
            return super.scan(tree, none);
        }

        private static boolean isNumberCast(Tree cast) {
            return cast.toString().startsWith("(int)") || cast.toString().startsWith("(byte)");
        }

        @Override
        public Void visitImport(ImportTree tree, Void none) {
            wrong("import " + tree.getQualifiedIdentifier());
            return null;
        }

        @Override
        public Void visitClass(ClassTree tree, Void none) {
            classes.add(tree.getSimpleName().toString());
            if (tree.getKind() == Tree.Kind.CLASS && !tree.getModifiers().getFlags().toString().contains("final")) {
                wrong("class " + tree.getSimpleName() + " is not final");
            }
            if (!within.isEmpty()) {
                wrong("class " + tree.getSimpleName() + " inside a method");
            }
            return super.visitClass(tree, none);
        }

        @Override
        public Void visitVariable(VariableTree tree, Void none) {
            ModifiersTree modifiers = tree.getModifiers();
            String flags = modifiers.getFlags().toString();
            if (flags.contains("static") && !flags.contains("final")) {
                wrong("static " + tree.getName() + " is not final");
            }
            if (flags.contains("static") && !STATICS.contains(tree.getType().toString())) {
                wrong("static " + tree.getName() + " of type " + tree.getType());
            }
            used.add(tree.getType().toString().replace("[]", ""));
            return super.visitVariable(tree, none);
        }

        @Override
        public Void visitMethod(MethodTree tree, Void none) {
            if (tree.getParameters().size() > 7) {
                wrong("parameters of " + tree.getName());
            }
            if (lines(tree) > 60) {
                wrong("lines of " + tree.getName());
            }
            if (OBJECT.contains(tree.getName().toString())) {
                wrong("a method " + tree.getName());
            }
            if (tree.getReturnType() != null) {
                used.add(tree.getReturnType().toString().replace("[]", ""));
            }
            within.push(tree.getName().toString());
            calls.computeIfAbsent(within.peek(), k -> new TreeSet<>());
            super.visitMethod(tree, none);
            within.pop();
            return null;
        }

        @Override
        public Void visitMethodInvocation(MethodInvocationTree tree, Void none) {
            Tree called = tree.getMethodSelect();
            Name name = called instanceof MemberSelectTree select ? select.getIdentifier()
                : ((IdentifierTree) called).getName();
            if (called instanceof MemberSelectTree select && isOfTheLibrary(select.getExpression().toString())) {
                wrong("a call of " + select);
            }
            if (!within.isEmpty()) {
                calls.get(within.peek()).add(name.toString());
            }
            return super.visitMethodInvocation(tree, none);
        }

        /** A capital first: a class, and none of those that the rules list. */
        private static boolean isOfTheLibrary(String owner) {
            return Character.isUpperCase(owner.charAt(0)) && !OWNERS.contains(owner) || owner.startsWith("java");
        }

        @Override
        public Void visitNewArray(NewArrayTree tree, Void none) {
            if (tree.getType() != null) {
                used.add(tree.getType().toString().replace("[]", ""));
            }
            return super.visitNewArray(tree, none);
        }

        @Override
        public Void visitNewClass(NewClassTree tree, Void none) {
            used.add(tree.getIdentifier().toString());
            if (tree.getClassBody() != null) {
                wrong("a class without a name in line " + line(tree));
            }
            return super.visitNewClass(tree, none);
        }

        @Override
        public Void visitBinary(BinaryTree tree, Void none) {
            boolean text = tree.getLeftOperand().getKind() == Tree.Kind.STRING_LITERAL
                || tree.getRightOperand().getKind() == Tree.Kind.STRING_LITERAL;
            if (text) {
                wrong("texts joined or compared in line " + line(tree));
            }
            return super.visitBinary(tree, none);
        }

        void types() {
            for (String type : used) {
                if (!classes.contains(type) && !NUMBERS.contains(type)) {
                    wrong("the type " + type);
                }
            }
        }

        void depths() {
            for (String name : FACE) {
                int deep = depth(name, 1);
                if (deep > 8) {
                    wrong(name + " calls " + deep + " deep");
                }
            }
        }

        /** By names alone; the same name in two classes counts for the deeper one. */
        private int depth(String name, int open) {
            if (open > 20) {
                return open;
            }
            if (!calls.containsKey(name)) {
                if (!LIBRARY.contains(name)) {
                    wrong(name + " is not of the library that the rules list");
                }
                return open;
            }
            int deepest = open;
            for (String next : calls.get(name)) {
                boolean sameRowCopy = next.equals(name) && name.equals("copyFrom");
                deepest = Math.max(deepest, sameRowCopy ? open + 3 : depth(next, open + 1));
            }
            return deepest;
        }
    }
}
