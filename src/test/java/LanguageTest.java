import com.sun.source.tree.ClassTree;
import com.sun.source.tree.CompilationUnitTree;
import com.sun.source.tree.LineMap;
import com.sun.source.tree.MethodInvocationTree;
import com.sun.source.tree.MethodTree;
import com.sun.source.tree.NewArrayTree;
import com.sun.source.tree.NewClassTree;
import com.sun.source.tree.Tree;
import com.sun.source.tree.VariableTree;
import com.sun.source.util.JavacTask;
import com.sun.source.util.SourcePositions;
import com.sun.source.util.TreePathScanner;
import com.sun.source.util.Trees;
import java.io.IOException;
import java.nio.file.Path;
import java.util.ArrayList;
import java.util.EnumSet;
import java.util.List;
import java.util.Map;
import java.util.Set;
import java.util.TreeMap;
import java.util.TreeSet;
import javax.lang.model.element.Element;
import javax.lang.model.element.ElementKind;
import javax.lang.model.element.Modifier;
import javax.lang.model.type.ArrayType;
import javax.lang.model.type.TypeKind;
import javax.lang.model.type.TypeMirror;
import javax.tools.JavaCompiler;
import javax.tools.StandardJavaFileManager;
import javax.tools.ToolProvider;

/**
 * The rules of ../shared/LANGUAGE.md, as far as they can be told by the source: the class is held to less than they
 * leave, as it needs no text, no list and no object made after its constructor.
 */
public final class LanguageTest {
    private static final Path SOURCE = Path.of("src", "main", "java", "SeaMill.java");
    private static final int LONGEST_METHOD = 60;
    private static final int MOST_PARAMETERS = 7;
    private static final int MOST_CLASSES = 12;
    private static final int MOST_FIELDS = 20;
    private static final int DEEPEST_CALLS = 8;
    private static final Set<String> LIBRARY = Set.of("java.lang.Math.min", "java.lang.Math.max", "java.lang.Math.abs",
        "java.lang.System.arraycopy", "Array.clone");
    private static final Set<Tree.Kind> REFUSED = EnumSet.of(Tree.Kind.THROW, Tree.Kind.TRY, Tree.Kind.CATCH,
        Tree.Kind.SYNCHRONIZED, Tree.Kind.ASSERT, Tree.Kind.LAMBDA_EXPRESSION, Tree.Kind.MEMBER_REFERENCE,
        Tree.Kind.BINDING_PATTERN, Tree.Kind.ANNOTATION, Tree.Kind.IMPORT, Tree.Kind.PACKAGE);

    private static Trees trees;
    private static CompilationUnitTree unit;

    private LanguageTest() {
    }

    public static void main(String[] arguments) throws IOException {
        JavaCompiler compiler = ToolProvider.getSystemJavaCompiler();
        try (StandardJavaFileManager files = compiler.getStandardFileManager(null, null, null)) {
            List<String> options = List.of("--release", "17", "-proc:none");
            JavacTask task = (JavacTask) compiler.getTask(null, files, null, options, null,
                files.getJavaFileObjects(SOURCE));
            unit = task.parse().iterator().next();
            task.analyze();
            trees = Trees.instance(task);
            Rules rules = new Rules();
            rules.scan(unit, null);
            rules.wholeFile();
        }
        Check.end("LanguageTest");
    }

    private static final class Rules extends TreePathScanner<Void, Void> {
        private final Map<String, Set<String>> calls = new TreeMap<>();
        private final Set<String> publicNames = new TreeSet<>();
        private final Set<String> otherNames = new TreeSet<>();
        private final List<String> classes = new ArrayList<>();
        private String caller = "";
        private boolean inMethod;

        @Override
        public Void scan(Tree tree, Void nothing) {
            if (tree != null && REFUSED.contains(tree.getKind())) {
                refuse(tree, "no " + tree.getKind() + " (rules 2, 4 and 6)");
            }
            return super.scan(tree, nothing);
        }

        @Override
        public Void visitClass(ClassTree tree, Void nothing) {
            Element element = element(tree);
            classes.add(element.getSimpleName().toString());
            boolean inside = element.getEnclosingElement().getKind() == ElementKind.CLASS;
            if (inside) {
                Set<Modifier> modifiers = element.getModifiers();
                hold(tree, "a class inside is static", modifiers.contains(Modifier.STATIC));
                hold(tree, "a class inside is not public or protected",
                    !modifiers.contains(Modifier.PUBLIC) && !modifiers.contains(Modifier.PROTECTED));
            } else {
                hold(tree, "the one class at the top", element.getSimpleName().contentEquals("SeaMill"));
            }
            int fields = 0;
            for (Element member : element.getEnclosedElements()) {
                if (member.getKind() == ElementKind.FIELD && !member.getModifiers().contains(Modifier.STATIC)) {
                    fields++;
                }
            }
            hold(tree, "at most " + MOST_FIELDS + " fields", fields <= MOST_FIELDS);
            hold(tree, "no block outside a method", tree.getMembers().stream()
                .noneMatch(member -> member.getKind() == Tree.Kind.BLOCK));
            return super.visitClass(tree, nothing);
        }

        @Override
        public Void visitMethod(MethodTree tree, Void nothing) {
            String outer = caller;
            boolean within = inMethod;
            Element element = element(tree);
            caller = nameOf(element);
            inMethod = element.getKind() == ElementKind.METHOD;
            calls.computeIfAbsent(caller, name -> new TreeSet<>());
            if (inMethod) {
                boolean open = element.getModifiers().contains(Modifier.PUBLIC);
                (open ? publicNames : otherNames).add(element.getSimpleName().toString());
                allowed(tree, trees.getTypeMirror(trees.getPath(unit, tree.getReturnType())));
            }
            hold(tree, "at most " + MOST_PARAMETERS + " parameters", tree.getParameters().size() <= MOST_PARAMETERS);
            hold(tree, "at most " + LONGEST_METHOD + " lines", lines(tree) <= LONGEST_METHOD);
            super.visitMethod(tree, nothing);
            caller = outer;
            inMethod = within;
            return null;
        }

        @Override
        public Void visitVariable(VariableTree tree, Void nothing) {
            Element element = element(tree);
            allowed(tree, element.asType());
            if (element.getModifiers().contains(Modifier.STATIC)) {
                hold(tree, "a static field is final", element.getModifiers().contains(Modifier.FINAL));
                Tree value = tree.getInitializer();
                boolean written = value != null && (value.getKind() == Tree.Kind.INT_LITERAL
                    || value.getKind() == Tree.Kind.UNARY_MINUS || value.getKind() == Tree.Kind.NEW_ARRAY);
                hold(tree, "a static field is written out", written);
            }
            return super.visitVariable(tree, nothing);
        }

        @Override
        public Void visitMethodInvocation(MethodInvocationTree tree, Void nothing) {
            Element element = element(tree.getMethodSelect());
            String name = nameOf(element);
            if (name.startsWith("SeaMill")) {
                calls.computeIfAbsent(caller, its -> new TreeSet<>()).add(name);
            } else {
                boolean superOfObject = name.equals("java.lang.Object.<init>");
                hold(tree, name + " is in the library", superOfObject || LIBRARY.contains(name));
                hold(tree, "no array is made after the constructor", !inMethod || !name.endsWith("clone"));
            }
            return super.visitMethodInvocation(tree, nothing);
        }

        @Override
        public Void visitNewClass(NewClassTree tree, Void nothing) {
            hold(tree, "no object is made after the constructor", !inMethod);
            hold(tree, "no class without a name", tree.getClassBody() == null);
            return super.visitNewClass(tree, nothing);
        }

        @Override
        public Void visitNewArray(NewArrayTree tree, Void nothing) {
            hold(tree, "no array is made after the constructor", !inMethod);
            return super.visitNewArray(tree, nothing);
        }

        private void wholeFile() {
            Check.due("one class in the file", 1, unit.getTypeDecls().size());
            hold(unit, "at most " + MOST_CLASSES + " classes", classes.size() <= MOST_CLASSES);
            for (String name : otherNames) {
                hold(unit, name + " is no name of the face", !publicNames.contains(name));
            }
            for (String method : calls.keySet()) {
                int depth = depthOf(method, new ArrayList<>());
                hold(unit, method + " goes " + depth + " deep", depth <= DEEPEST_CALLS);
            }
        }

        /** How many calls stand open at once, this one included. */
        private int depthOf(String method, List<String> open) {
            if (open.contains(method)) {
                hold(unit, method + " is no recursion", false);
                return 0;
            }
            open.add(method);
            int deepest = 0;
            for (String called : calls.getOrDefault(method, Set.of())) {
                deepest = Math.max(deepest, depthOf(called, open));
            }
            open.remove(method);
            return deepest + 1;
        }

        /** Whole numbers, characters, booleans, own classes, and arrays of these of one dimension. */
        private void allowed(Tree tree, TypeMirror type) {
            TypeMirror element = type instanceof ArrayType array ? array.getComponentType() : type;
            boolean number = element.getKind().isPrimitive() && element.getKind() != TypeKind.FLOAT
                && element.getKind() != TypeKind.DOUBLE;
            boolean own = element.toString().startsWith("SeaMill");
            hold(tree, "type " + type, number || own || type.getKind() == TypeKind.VOID);
        }

        private Element element(Tree tree) {
            return trees.getElement(trees.getPath(unit, tree));
        }

        private static String nameOf(Element element) {
            return element.getEnclosingElement() + "." + element.getSimpleName();
        }

        private long lines(Tree tree) {
            SourcePositions positions = trees.getSourcePositions();
            LineMap map = unit.getLineMap();
            return map.getLineNumber(positions.getEndPosition(unit, tree))
                - map.getLineNumber(positions.getStartPosition(unit, tree)) + 1;
        }

        private void refuse(Tree tree, String rule) {
            hold(tree, rule, false);
        }

        private void hold(Tree tree, String rule, boolean held) {
            long line = unit.getLineMap().getLineNumber(trees.getSourcePositions().getStartPosition(unit, tree));
            Check.due(SOURCE + ":" + line + ": " + rule, 1, held ? 1 : 0);
        }
    }
}
