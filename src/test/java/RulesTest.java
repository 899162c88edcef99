import com.sun.source.tree.BinaryTree;
import com.sun.source.tree.ClassTree;
import com.sun.source.tree.CompilationUnitTree;
import com.sun.source.tree.MethodInvocationTree;
import com.sun.source.tree.MethodTree;
import com.sun.source.tree.NewClassTree;
import com.sun.source.tree.Tree;
import com.sun.source.tree.VariableTree;
import com.sun.source.util.JavacTask;
import com.sun.source.util.TreePathScanner;
import com.sun.source.util.Trees;
import java.io.IOException;
import java.lang.reflect.Constructor;
import java.lang.reflect.Field;
import java.lang.reflect.Method;
import java.lang.reflect.Modifier;
import java.nio.file.Files;
import java.nio.file.Path;
import java.util.EnumSet;
import java.util.HashMap;
import java.util.List;
import java.util.Map;
import java.util.Set;
import java.util.TreeSet;
import java.util.regex.Matcher;
import java.util.regex.Pattern;
import javax.lang.model.element.Element;
import javax.lang.model.element.ElementKind;
import javax.lang.model.element.TypeElement;
import javax.tools.JavaCompiler;
import javax.tools.StandardJavaFileManager;
import javax.tools.ToolProvider;

/** Those rules of ../shared/LANGUAGE.md that can be looked up in the program's own text. */
public final class RulesTest {
    private static final String SOURCE = "src/main/java/GuestLevels.java";
    private static final Set<Tree.Kind> BANNED = EnumSet.of(Tree.Kind.LAMBDA_EXPRESSION,
        Tree.Kind.MEMBER_REFERENCE, Tree.Kind.TRY, Tree.Kind.THROW, Tree.Kind.SYNCHRONIZED,
        Tree.Kind.ASSERT, Tree.Kind.CATCH);
    private static final Set<String> LIBRARY = Set.of("java.util.Arrays.fill",
        "java.lang.System.arraycopy", "java.lang.Math.max", "java.lang.Math.min",
        "java.lang.Math.floorDiv", "java.lang.Integer.bitCount",
        "java.lang.Object.<init>");
    private static int wrong;

    private RulesTest() {
    }

    public static void main(String[] args) throws IOException {
        checkFace();
        Reader reader = readSource();
        check(reader.classes <= 12, "rule 11: " + reader.classes + " classes");
        reader.calls.keySet().forEach(method -> {
            int depth = reader.depth(method, new TreeSet<>());
            check(depth <= 8, "rule 11: " + method + " goes " + depth + " deep");
        });
        System.out.println(wrong == 0 ? "the rules are kept" : wrong + " breaches of the rules");
        if (wrong != 0) System.exit(1);
    }

    private static void check(boolean holds, String breach) {
        if (!holds) {
            wrong++;
            System.out.println(breach);
        }
    }

    /** Rule 1: the document's face and nothing else that others can see. */
    private static void checkFace() throws IOException {
        Set<String> due = new TreeSet<>();
        String document = Files.readString(Path.of("../shared/DOC.md"));
        String face = document.substring(document.indexOf("```java"), document.indexOf("## Terms"));
        Matcher matcher = Pattern.compile("public (\\w+) (\\w+)\\(([^)]*)\\);").matcher(face);
        while (matcher.find()) {
            due.add(matcher.group(1) + " " + matcher.group(2) + "(" + matcher.group(3).replaceAll(" \\w+(,|$)", "$1") + ")");
        }
        Set<String> seen = new TreeSet<>();
        Set<String> publicNames = new TreeSet<>();
        for (Method method : GuestLevels.class.getDeclaredMethods()) {
            if (!Modifier.isPrivate(method.getModifiers())) {
                StringBuilder types = new StringBuilder();
                for (Class<?> type : method.getParameterTypes()) types.append(types.length() == 0 ? "" : ", ").append(type);
                seen.add(method.getReturnType() + " " + method.getName() + "(" + types + ")");
                publicNames.add(method.getName());
            }
        }
        check(due.size() == 69 && due.equals(seen), "rule 1: the face is " + seen + ", due is " + due);
        for (Field field : GuestLevels.class.getDeclaredFields()) {
            boolean isPrivate = Modifier.isPrivate(field.getModifiers());
            check(isPrivate != field.getName().equals("NONE"), "rule 1: field " + field);
        }
        for (Constructor<?> constructor : GuestLevels.class.getDeclaredConstructors()) {
            check(Modifier.isPublic(constructor.getModifiers()) && constructor.getParameterCount() == 0, "rule 1: " + constructor);
        }
        check(Modifier.isFinal(GuestLevels.class.getModifiers()), "rule 1: the class isn't final");
        for (Class<?> inside : GuestLevels.class.getDeclaredClasses()) {
            int modifiers = inside.getModifiers();
            check(Modifier.isStatic(modifiers) && !Modifier.isPublic(modifiers), "rule 1: " + inside);
            for (Method method : inside.getDeclaredMethods()) {
                check(!publicNames.contains(method.getName()), "rule 1: " + method + " bears a public name");
            }
        }
        for (Method method : GuestLevels.class.getDeclaredMethods()) {
            check(!Modifier.isPrivate(method.getModifiers()) || !publicNames.contains(method.getName()),
                "rule 1: " + method + " bears a public name");
        }
    }

    private static Reader readSource() throws IOException {
        JavaCompiler compiler = ToolProvider.getSystemJavaCompiler();
        try (StandardJavaFileManager files = compiler.getStandardFileManager(null, null, null)) {
            JavacTask task = (JavacTask) compiler.getTask(null, files, null, List.of("-proc:none"), null,
                files.getJavaFileObjects(SOURCE));
            CompilationUnitTree unit = task.parse().iterator().next();
            task.analyze();
            Reader reader = new Reader(Trees.instance(task), unit);
            reader.scan(unit, null);
            return reader;
        }
    }

    private static final class Reader extends TreePathScanner<Void, Void> {
        private final Trees trees;
        private final CompilationUnitTree unit;
        /** Which methods each method calls. */
        final Map<String, Set<String>> calls = new HashMap<>();
        int classes;
        private String within = "";

        Reader(Trees trees, CompilationUnitTree unit) {
            this.trees = trees;
            this.unit = unit;
        }

        /** How deep calls go from a method on, itself counted. */
        int depth(String method, Set<String> open) {
            check(open.add(method), "rule 8: " + method + " calls itself");
            int deepest = 0;
            for (String called : calls.getOrDefault(method, Set.of())) {
                if (!open.contains(called)) deepest = Math.max(deepest, depth(called, open));
            }
            open.remove(method);
            return 1 + deepest;
        }

        private long line(long position) {
            return unit.getLineMap().getLineNumber(position);
        }

        @Override
        public Void scan(Tree tree, Void none) {
            if (tree != null) {
                check(!BANNED.contains(tree.getKind()), "banned: " + tree);
            }
            return super.scan(tree, none);
        }

        @Override
        public Void visitClass(ClassTree tree, Void none) {
            classes++;
            long fields = tree.getMembers().stream().filter(member -> member instanceof VariableTree field
                && !field.getModifiers().getFlags().contains(javax.lang.model.element.Modifier.STATIC)).count();
            check(fields <= 20, "rule 11: " + tree.getSimpleName() + " has " + fields + " fields");
            return super.visitClass(tree, none);
        }

        @Override
        public Void visitMethod(MethodTree tree, Void none) {
            String outside = within;
            within = name(trees.getElement(getCurrentPath()));
            calls.computeIfAbsent(within, key -> new TreeSet<>());
            long start = trees.getSourcePositions().getStartPosition(unit, tree);
            long end = trees.getSourcePositions().getEndPosition(unit, tree);
            check(line(end) - line(start) < 60, "rule 11: " + within + " is long");
            check(tree.getParameters().size() <= 7, "rule 11: " + within + " has many parameters");
            super.visitMethod(tree, none);
            within = outside;
            return null;
        }

        @Override
        public Void visitMethodInvocation(MethodInvocationTree tree, Void none) {
            note(trees.getElement(getCurrentPath()));
            return super.visitMethodInvocation(tree, none);
        }

        @Override
        public Void visitNewClass(NewClassTree tree, Void none) {
            note(trees.getElement(getCurrentPath()));
            return super.visitNewClass(tree, none);
        }

        @Override
        public Void visitBinary(BinaryTree tree, Void none) {
            boolean joins = tree.getKind() == Tree.Kind.PLUS
                && trees.getTypeMirror(getCurrentPath()).toString().equals("java.lang.String");
            check(!joins, "rule 10: texts joined by +: " + tree);
            return super.visitBinary(tree, none);
        }

        private void note(Element called) {
            String name = name(called);
            if (!name.startsWith("GuestLevels")) {
                check(LIBRARY.contains(name), "rule 4: " + name);
            }
            if (within.isEmpty()) {
                // a field's initialiser runs in the constructor of the class at hand
                TypeElement owner = (TypeElement) trees.getElement(getCurrentPath()).getEnclosingElement();
                calls.computeIfAbsent("initialiser of a field of type " + owner, key -> new TreeSet<>()).add(name);
            } else {
                calls.get(within).add(name);
            }
        }

        private static String name(Element method) {
            boolean isLibrary = !method.getEnclosingElement().toString().startsWith("GuestLevels");
            String simple = method.getKind() == ElementKind.CONSTRUCTOR ? "<init>" : method.getSimpleName().toString();
            return method.getEnclosingElement() + "." + (isLibrary ? simple : method.toString());
        }
    }
}
