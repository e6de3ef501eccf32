import com.sun.source.tree.*;
import com.sun.source.util.JavacTask;
import com.sun.source.util.SourcePositions;
import com.sun.source.util.TreePath;
import com.sun.source.util.TreePathScanner;
import com.sun.source.util.Trees;
import java.io.File;
import java.lang.reflect.Constructor;
import java.lang.reflect.Field;
import java.lang.reflect.Method;
import java.lang.reflect.Modifier;
import java.util.ArrayList;
import java.util.Arrays;
import java.util.HashMap;
import java.util.HashSet;
import java.util.List;
import java.util.Map;
import java.util.Set;
import java.util.TreeSet;
import javax.lang.model.element.Element;
import javax.lang.model.element.ElementKind;
import javax.lang.model.element.TypeElement;
import javax.lang.model.element.VariableElement;
import javax.lang.model.type.TypeKind;
import javax.lang.model.type.TypeMirror;
import javax.tools.JavaCompiler;
import javax.tools.StandardJavaFileManager;
import javax.tools.ToolProvider;

/** The face of the class, and those rules of LANGUAGE.md that can be seen in its text. */
public final class LanguageTest {
    private static final String FILE = "src/main/java/SiltedFloats.java";
    private static final String[] FACE = {
        "int setWave(int, int, int, int)", "int setStation(int, int, int, int)", "int setRate(int, boolean, int)",
        "int turn(int, boolean)", "int clean(int)", "int level(int)", "int pass(int)", "int follow()",
        "int mend(int, int, int, int)", "int forget(int)", "int type(char)", "int clearText()", "int undo()",
        "int keep()", "int restore()", "int sea(int)", "int outside(int, int)", "int station(int, int)",
        "int hour(int, int, int)", "int gap(int, int, int)", "int misfit(int, int, int, int)",
        "int bestPhase(int, int, int)", "int high(int, int)", "int count(int)"};
    private static final String[] CONSTANTS = {"UNKNOWN", "BAD_VALUE", "FULL", "NOT_POSSIBLE", "NONE"};

    /** The library that rule 4 lists, but for the static functions of numbers. */
    private static final Set<String> LIBRARY = new HashSet<>(Arrays.asList(
            "java.lang.Object.Object", "java.lang.System.arraycopy",
            "java.util.Arrays.fill", "java.util.Arrays.copyOf", "java.util.Arrays.copyOfRange"));
    private static final Map<String, Set<String>> OF_OBJECTS = Map.of(
            "java.lang.String", Set.of("String", "length", "charAt", "isEmpty", "equals", "indexOf", "substring",
                    "toCharArray"),
            "java.lang.StringBuilder", Set.of("StringBuilder", "append", "charAt", "setCharAt", "setLength",
                    "deleteCharAt", "reverse", "length", "toString"),
            "java.util.ArrayList", Set.of("ArrayList", "add", "get", "set", "remove", "size", "isEmpty", "clear"),
            "java.util.List", Set.of("of", "add", "get", "set", "remove", "size", "isEmpty", "clear"));
    private static final Set<String> OF_NUMBERS = Set.of("java.lang.Math", "java.lang.Integer", "java.lang.Long");
    private static final Set<String> TYPES = Set.of("int", "long", "short", "byte", "char", "boolean", "double",
            "float", "java.lang.String", "java.lang.StringBuilder", "java.lang.Integer");

    private static final Set<Tree.Kind> RULED_OUT = new HashSet<>(Arrays.asList(
            Tree.Kind.THROW, Tree.Kind.TRY, Tree.Kind.CATCH, Tree.Kind.SYNCHRONIZED, Tree.Kind.ASSERT,
            Tree.Kind.LAMBDA_EXPRESSION, Tree.Kind.MEMBER_REFERENCE));

    public static void main(String[] args) throws Exception {
        checkFace();
        checkText();
        Checks.end();
    }

    private static void checkFace() {
        Class<?> c = SiltedFloats.class;
        Checks.isTrue("the class is public and final",
                Modifier.isPublic(c.getModifiers()) && Modifier.isFinal(c.getModifiers()));
        Set<String> open = new TreeSet<>();
        Set<String> hidden = new HashSet<>();
        for (Method m : c.getDeclaredMethods()) {
            if (Modifier.isPrivate(m.getModifiers())) {
                hidden.add(m.getName());
            } else {
                String types = Arrays.toString(m.getParameterTypes());
                open.add(m.getReturnType() + " " + m.getName() + "(" + types.substring(1, types.length() - 1) + ")");
                Checks.isTrue(m + " is public and not static",
                        Modifier.isPublic(m.getModifiers()) && !Modifier.isStatic(m.getModifiers()));
                Checks.due("exceptions of " + m, m.getExceptionTypes().length, 0);
            }
        }
        Checks.due("the open methods", open.toString(), new TreeSet<>(Arrays.asList(FACE)).toString());
        for (String face : FACE) {
            String name = face.substring(4, face.indexOf('('));
            Checks.isTrue("rule 1: no private method is named " + name, !hidden.contains(name));
        }
        Set<String> fields = new TreeSet<>();
        for (Field f : c.getDeclaredFields()) {
            if (!Modifier.isPrivate(f.getModifiers())) {
                fields.add(f.getName());
            }
        }
        Checks.due("the open fields", fields.toString(), new TreeSet<>(Arrays.asList(CONSTANTS)).toString());
        Constructor<?>[] constructors = c.getDeclaredConstructors();
        Checks.due("constructors", constructors.length, 1);
        Checks.isTrue("a public one without arguments", Modifier.isPublic(constructors[0].getModifiers())
                && constructors[0].getParameterCount() == 0);
        for (Class<?> inside : c.getDeclaredClasses()) {
            Checks.isTrue("rule 2: static: " + inside, Modifier.isStatic(inside.getModifiers()));
            Checks.isTrue("rule 1: not open: " + inside, !Modifier.isPublic(inside.getModifiers())
                    && !Modifier.isProtected(inside.getModifiers()));
            for (Method m : inside.getDeclaredMethods()) {
                boolean named = Arrays.stream(FACE).anyMatch(f -> f.contains(" " + m.getName() + "("));
                Checks.isTrue("rule 1: not named as a public one: " + m, !named);
            }
        }
    }

    private static void checkText() throws Exception {
        JavaCompiler compiler = ToolProvider.getSystemJavaCompiler();
        try (StandardJavaFileManager files = compiler.getStandardFileManager(null, null, null)) {
            JavacTask task = (JavacTask) compiler.getTask(null, files, null, List.of("-proc:none"), null,
                    files.getJavaFileObjects(new File(FILE)));
            Iterable<? extends CompilationUnitTree> units = task.parse();
            task.analyze();
            for (CompilationUnitTree unit : units) {
                Checks.isTrue("rule 1: no package", unit.getPackage() == null);
                Checks.due("rule 1: classes at the top", unit.getTypeDecls().size(), 1);
                Scanner scanner = new Scanner(Trees.instance(task), unit);
                scanner.scan(unit, null);
                scanner.close();
            }
        }
    }

    private static final class Scanner extends TreePathScanner<Void, Void> {
        private final Trees trees;
        private final CompilationUnitTree unit;
        private final Map<String, Set<String>> calls = new HashMap<>();
        private String method = "";
        private int classes = 0;

        Scanner(Trees trees, CompilationUnitTree unit) {
            this.trees = trees;
            this.unit = unit;
        }

        private String place(Tree tree) {
            return " (line " + lineOf(trees.getSourcePositions().getStartPosition(unit, tree)) + ")";
        }

        private long lineOf(long position) {
            return unit.getLineMap().getLineNumber(position);
        }

        @Override
        public Void scan(Tree tree, Void nothing) {
            if (tree != null) {
                Checks.isTrue("rule 6 or 2: " + tree.getKind() + place(tree), !RULED_OUT.contains(tree.getKind()));
            }
            return super.scan(tree, nothing);
        }

        @Override
        public Void visitClass(ClassTree tree, Void nothing) {
            classes++;
            int fields = 0;
            for (Tree member : tree.getMembers()) {
                if (member instanceof VariableTree) {
                    Set<javax.lang.model.element.Modifier> flags = ((VariableTree) member).getModifiers().getFlags();
                    boolean isStatic = flags.contains(javax.lang.model.element.Modifier.STATIC);
                    boolean isFinal = flags.contains(javax.lang.model.element.Modifier.FINAL);
                    Checks.isTrue("rule 5: static fields are final" + place(member), !isStatic || isFinal);
                    fields += isStatic ? 0 : 1;
                }
                Checks.isTrue("rule 5: no initialiser block" + place(member), !(member instanceof BlockTree));
            }
            Checks.isTrue("rule 11: some twenty fields of " + tree.getSimpleName(), fields <= 20);
            return super.visitClass(tree, nothing);
        }

        @Override
        public Void visitMethod(MethodTree tree, Void nothing) {
            SourcePositions positions = trees.getSourcePositions();
            long lines = lineOf(positions.getEndPosition(unit, tree)) - lineOf(positions.getStartPosition(unit, tree));
            Checks.isTrue("rule 11: some sixty lines of " + tree.getName(), lines <= 60);
            Checks.isTrue("rule 11: seven parameters of " + tree.getName(), tree.getParameters().size() <= 7);
            String former = method;
            method = nameOf(trees.getElement(getCurrentPath()));
            calls.putIfAbsent(method, new TreeSet<>());
            super.visitMethod(tree, nothing);
            method = former;
            return null;
        }

        private static String nameOf(Element element) {
            String name = element.getKind() == ElementKind.CONSTRUCTOR
                    ? element.getEnclosingElement().getSimpleName().toString() : element.getSimpleName().toString();
            return ((TypeElement) element.getEnclosingElement()).getQualifiedName() + "." + name;
        }

        private static boolean isListed(String name) {
            String owner = name.substring(0, name.lastIndexOf('.'));
            String simple = name.substring(owner.length() + 1);
            return LIBRARY.contains(name) || OF_OBJECTS.getOrDefault(owner, Set.of()).contains(simple)
                    || OF_NUMBERS.contains(owner) && !simple.endsWith("Exact") && !simple.equals("random");
        }

        private void called(Element element, Tree tree) {
            String name = nameOf(element);
            Checks.isTrue("rule 4: " + name + place(tree), name.startsWith("SiltedFloats.") || isListed(name));
            calls.computeIfAbsent(method, m -> new TreeSet<>()).add(name);
        }

        @Override
        public Void visitMethodInvocation(MethodInvocationTree tree, Void nothing) {
            called(trees.getElement(getCurrentPath()), tree);
            return super.visitMethodInvocation(tree, nothing);
        }

        @Override
        public Void visitNewClass(NewClassTree tree, Void nothing) {
            called(trees.getElement(getCurrentPath()), tree);
            Checks.isTrue("rule 2: no anonymous class" + place(tree), tree.getClassBody() == null);
            return super.visitNewClass(tree, nothing);
        }

        @Override
        public Void visitMemberSelect(MemberSelectTree tree, Void nothing) {
            Element element = trees.getElement(getCurrentPath());
            if (element instanceof VariableElement && element.getEnclosingElement() instanceof TypeElement) {
                String owner = element.getEnclosingElement().toString();
                Checks.isTrue("rule 4: " + tree + place(tree),
                        owner.startsWith("SiltedFloats") || tree.getIdentifier().contentEquals("length"));
            }
            return super.visitMemberSelect(tree, nothing);
        }

        @Override
        public Void visitVariable(VariableTree tree, Void nothing) {
            Element element = trees.getElement(getCurrentPath());
            if (element instanceof VariableElement) {
                String type = typeOf(element.asType());
                Checks.isTrue("rule 3: the type " + type + place(tree),
                        TYPES.contains(type) || type.startsWith("SiltedFloats.") || type.startsWith("java.util.List<")
                                || type.startsWith("java.util.ArrayList<"));
            }
            return super.visitVariable(tree, nothing);
        }

        private static String typeOf(TypeMirror type) {
            return type.getKind() == TypeKind.ARRAY
                    ? ((javax.lang.model.type.ArrayType) type).getComponentType().toString() : type.toString();
        }

        @Override
        public Void visitBinary(BinaryTree tree, Void nothing) {
            TypeMirror left = trees.getTypeMirror(new TreePath(getCurrentPath(), tree.getLeftOperand()));
            Checks.isTrue("rule 10: no texts joined by +" + place(tree),
                    tree.getKind() != Tree.Kind.PLUS || left.getKind().isPrimitive());
            return super.visitBinary(tree, nothing);
        }

        void close() {
            Checks.isTrue("rule 11: some twelve classes", classes <= 12);
            int deepest = 0;
            for (String start : new ArrayList<>(calls.keySet())) {
                int depth = depthOf(start, new ArrayList<>());
                deepest = Math.max(deepest, depth);
                Checks.isTrue("rule 11: calls go " + depth + " deep from " + start, depth <= 8);
            }
            System.out.println("calls go " + deepest + " deep, of " + classes + " classes");
        }

        private int depthOf(String name, List<String> open) {
            boolean isRecursion = open.contains(name);
            if (isRecursion) {
                return 0;
            }
            open.add(name);
            int deepest = 0;
            for (String next : calls.getOrDefault(name, Set.of())) {
                deepest = Math.max(deepest, depthOf(next, open));
            }
            open.remove(name);
            return deepest + 1;
        }
    }
}
