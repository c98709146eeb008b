import com.sun.source.tree.AssertTree;
import com.sun.source.tree.BinaryTree;
import com.sun.source.tree.BlockTree;
import com.sun.source.tree.ClassTree;
import com.sun.source.tree.CompilationUnitTree;
import com.sun.source.tree.ImportTree;
import com.sun.source.tree.LambdaExpressionTree;
import com.sun.source.tree.MemberReferenceTree;
import com.sun.source.tree.MethodInvocationTree;
import com.sun.source.tree.MethodTree;
import com.sun.source.tree.NewClassTree;
import com.sun.source.tree.SynchronizedTree;
import com.sun.source.tree.ThrowTree;
import com.sun.source.tree.Tree;
import com.sun.source.tree.TryTree;
import com.sun.source.util.JavacTask;
import com.sun.source.util.TreePath;
import com.sun.source.util.TreePathScanner;
import com.sun.source.util.Trees;
import java.io.File;
import java.lang.reflect.Constructor;
import java.lang.reflect.Field;
import java.lang.reflect.Method;
import java.lang.reflect.Modifier;
import java.nio.charset.StandardCharsets;
import java.nio.file.Files;
import java.nio.file.Path;
import java.util.ArrayList;
import java.util.HashMap;
import java.util.HashSet;
import java.util.List;
import java.util.Map;
import java.util.Set;
import java.util.TreeSet;
import java.util.regex.Matcher;
import java.util.regex.Pattern;
import javax.lang.model.element.Element;
import javax.lang.model.element.ElementKind;
import javax.lang.model.element.ExecutableElement;
import javax.lang.model.type.TypeMirror;
import javax.tools.JavaCompiler;
import javax.tools.StandardJavaFileManager;
import javax.tools.ToolProvider;

/** The class has the document's face and keeps to LANGUAGE.md, as far as a program can tell. */
public final class FormTest {
    private static final String SOURCE = "src/main/java/MoonOverTheHill.java";
    private static final String DOCUMENT = "../shared/DOC.md";

    // What the rules allow of the library and this program has a use for.
    private static final Set<String> LIBRARY = Set.of(
        "Math.min", "Math.max", "Math.abs", "Math.floorMod", "Math.floorDiv", "Integer.bitCount",
        "Arrays.fill", "System.arraycopy", "String.length", "String.charAt", "Object.<init>");

    private static int wrong;

    public static void main(String[] args) throws Exception {
        faceIsTheDocuments();
        membersAreHidden();
        sourceKeepsToTheRules();
        System.out.println(wrong == 0 ? "the form is as due" : wrong + " things are not as due");
        if (wrong != 0) {
            System.exit(1);
        }
    }

    private static void fault(String text) {
        wrong++;
        System.out.println(text);
    }

    // ---- the face

    private static void faceIsTheDocuments() throws Exception {
        String document = Files.readString(Path.of(DOCUMENT), StandardCharsets.UTF_8);
        int from = document.indexOf("```java");
        String face = document.substring(from, document.indexOf("```", from + 3));
        Set<String> due = new TreeSet<>();
        Matcher method = Pattern.compile("public (int|long) (\\w+)\\(([^)]*)\\);").matcher(face);
        while (method.find()) {
            due.add(method.group(1) + " " + method.group(2) + "(" + typesOf(method.group(3)) + ")");
        }
        Set<String> got = new TreeSet<>();
        for (Method m : MoonOverTheHill.class.getDeclaredMethods()) {
            if (!Modifier.isPrivate(m.getModifiers())) {
                got.add(m.getReturnType().getName() + " " + m.getName() + "(" + namesOf(m.getParameterTypes()) + ")");
            }
        }
        if (due.size() != 60 || !due.equals(got)) {
            fault("face: due are " + due + ", there are " + got);
        }
        int modifiers = MoonOverTheHill.class.getModifiers();
        if (!Modifier.isPublic(modifiers) || !Modifier.isFinal(modifiers)) {
            fault("face: the class is not public and final");
        }
        Constructor<?>[] constructors = MoonOverTheHill.class.getDeclaredConstructors();
        if (constructors.length != 1 || constructors[0].getParameterCount() != 0) {
            fault("face: not the document's constructor alone");
        }
    }

    private static String typesOf(String parameters) {
        return parameters.isEmpty() ? "" : parameters.replaceAll(" \\w+(,|$)", "$1").replace(" ", "");
    }

    private static String namesOf(Class<?>[] types) {
        List<String> names = new ArrayList<>();
        for (Class<?> type : types) {
            names.add(type.getName());
        }
        return String.join(",", names);
    }

    private static void membersAreHidden() {
        for (Field field : MoonOverTheHill.class.getDeclaredFields()) {
            if (!Modifier.isPrivate(field.getModifiers()) && !field.getName().equals("NONE")) {
                fault("rule 1: field " + field.getName() + " can be seen");
            }
            staticIsConstant(field);
        }
        Set<String> face = new HashSet<>();
        for (Method method : MoonOverTheHill.class.getDeclaredMethods()) {
            if (Modifier.isPublic(method.getModifiers())) {
                face.add(method.getName());
            }
        }
        Class<?>[] inside = MoonOverTheHill.class.getDeclaredClasses();
        if (inside.length + 1 > 12) {
            fault("rule 11: " + (inside.length + 1) + " classes");
        }
        hasNoPrivateNamesake(MoonOverTheHill.class, face);
        for (Class<?> one : inside) {
            int modifiers = one.getModifiers();
            if (!Modifier.isStatic(modifiers) || Modifier.isPublic(modifiers) || Modifier.isProtected(modifiers)) {
                fault("rule 1 or 2: class " + one.getSimpleName());
            }
            hasNoPrivateNamesake(one, face);
            for (Field field : one.getDeclaredFields()) {
                staticIsConstant(field);
            }
        }
    }

    private static void hasNoPrivateNamesake(Class<?> one, Set<String> face) {
        for (Method method : one.getDeclaredMethods()) {
            if (Modifier.isPrivate(method.getModifiers()) && face.contains(method.getName())) {
                fault("rule 1: private " + method.getName() + " bears the name of a public one");
            }
        }
        int fields = 0;
        for (Field field : one.getDeclaredFields()) {
            fields += Modifier.isStatic(field.getModifiers()) ? 0 : 1;
        }
        if (fields > 20) {
            fault("rule 11: " + one.getSimpleName() + " has " + fields + " fields");
        }
    }

    private static void staticIsConstant(Field field) {
        int modifiers = field.getModifiers();
        if (Modifier.isStatic(modifiers) && !(Modifier.isFinal(modifiers) && field.getType().isPrimitive())) {
            fault("rule 5: static " + field.getName());
        }
    }

    // ---- the source

    private static void sourceKeepsToTheRules() throws Exception {
        JavaCompiler compiler = ToolProvider.getSystemJavaCompiler();
        try (StandardJavaFileManager files = compiler.getStandardFileManager(null, null, StandardCharsets.UTF_8)) {
            JavacTask task = (JavacTask) compiler.getTask(null, files, null, List.of("-proc:none"), null,
                files.getJavaFileObjects(new File(SOURCE)));
            CompilationUnitTree unit = task.parse().iterator().next();
            task.analyze();
            Rules rules = new Rules(unit, Trees.instance(task));
            rules.scan(unit, null);
            rules.callsAreShallow();
        }
    }

    private static final class Rules extends TreePathScanner<Void, Void> {
        private final CompilationUnitTree unit;
        private final Trees trees;
        private final Map<Element, Set<Element>> calls = new HashMap<>();
        private Element method;

        Rules(CompilationUnitTree unit, Trees trees) {
            this.unit = unit;
            this.trees = trees;
        }

        private long lineOf(long position) {
            return unit.getLineMap().getLineNumber(position);
        }

        private void at(Tree tree, String text) {
            fault(text + ", line " + lineOf(trees.getSourcePositions().getStartPosition(unit, tree)));
        }

        @Override
        public Void visitImport(ImportTree tree, Void none) {
            if (!tree.toString().trim().equals("import java.util.Arrays;")) {
                at(tree, "rule 4: " + tree);
            }
            return null;
        }

        @Override
        public Void visitClass(ClassTree tree, Void none) {
            if (tree.getSimpleName().length() == 0) {
                at(tree, "rule 2: an anonymous class");
            }
            return super.visitClass(tree, none);
        }

        @Override
        public Void visitMethod(MethodTree tree, Void none) {
            method = trees.getElement(getCurrentPath());
            long first = lineOf(trees.getSourcePositions().getStartPosition(unit, tree));
            long last = lineOf(Math.max(0, trees.getSourcePositions().getEndPosition(unit, tree)));
            if (last - first + 1 > 60) {
                at(tree, "rule 11: " + tree.getName() + " has " + (last - first + 1) + " lines");
            }
            if (tree.getParameters().size() > 7) {
                at(tree, "rule 11: " + tree.getName() + " has too many parameters");
            }
            calls.putIfAbsent(method, new HashSet<>());
            return super.visitMethod(tree, none);
        }

        @Override
        public Void visitMethodInvocation(MethodInvocationTree tree, Void none) {
            callIsAllowed(tree, trees.getElement(new TreePath(getCurrentPath(), tree.getMethodSelect())));
            return super.visitMethodInvocation(tree, none);
        }

        @Override
        public Void visitNewClass(NewClassTree tree, Void none) {
            Element made = trees.getElement(getCurrentPath());
            if (made == null || isForeign(made)) {
                at(tree, "rule 4: " + tree);
            } else if (method != null) {
                calls.get(method).add(made);
            }
            return super.visitNewClass(tree, none);
        }

        private boolean isForeign(Element element) {
            return !outermost(element).equals("MoonOverTheHill");
        }

        private String outermost(Element element) {
            Element at = element;
            while (at.getEnclosingElement() != null && at.getEnclosingElement().getKind() != ElementKind.PACKAGE) {
                at = at.getEnclosingElement();
            }
            return at.getSimpleName().toString();
        }

        private void callIsAllowed(Tree tree, Element called) {
            if (!(called instanceof ExecutableElement)) {
                at(tree, "an unknown call");
            } else if (isForeign(called)) {
                String name = called.getEnclosingElement().getSimpleName() + "." + called.getSimpleName();
                if (!LIBRARY.contains(name)) {
                    at(tree, "rule 4: " + name);
                }
            } else if (method != null) {
                calls.get(method).add(called);
            }
        }

        @Override
        public Void visitBinary(BinaryTree tree, Void none) {
            TypeMirror type = trees.getTypeMirror(getCurrentPath());
            if (type != null && type.toString().contains("String")) {
                at(tree, "rule 10: texts joined by +");
            }
            return super.visitBinary(tree, none);
        }

        @Override
        public Void visitLambdaExpression(LambdaExpressionTree tree, Void none) {
            at(tree, "rule 2: a lambda");
            return super.visitLambdaExpression(tree, none);
        }

        @Override
        public Void visitMemberReference(MemberReferenceTree tree, Void none) {
            at(tree, "rule 2: a method reference");
            return super.visitMemberReference(tree, none);
        }

        @Override
        public Void visitThrow(ThrowTree tree, Void none) {
            at(tree, "rule 6: throw");
            return super.visitThrow(tree, none);
        }

        @Override
        public Void visitTry(TryTree tree, Void none) {
            at(tree, "rule 6: try");
            return super.visitTry(tree, none);
        }

        @Override
        public Void visitSynchronized(SynchronizedTree tree, Void none) {
            at(tree, "rule 6: synchronized");
            return super.visitSynchronized(tree, none);
        }

        @Override
        public Void visitAssert(AssertTree tree, Void none) {
            at(tree, "rule 6: assert");
            return super.visitAssert(tree, none);
        }

        @Override
        public Void visitBlock(BlockTree tree, Void none) {
            boolean isInitialiser = getCurrentPath().getParentPath().getLeaf() instanceof ClassTree;
            if (isInitialiser) {
                at(tree, "rule 5: an initialiser block");
            }
            return super.visitBlock(tree, none);
        }

        void callsAreShallow() {
            for (Element each : calls.keySet()) {
                int depth = depthOf(each, new ArrayList<>());
                if (depth > 8) {
                    fault("rule 11: calls from " + each + " go " + depth + " deep");
                }
            }
        }

        private int depthOf(Element called, List<Element> above) {
            if (above.contains(called)) {
                fault("rule 8: " + called + " calls itself");
                return 0;
            }
            above.add(called);
            int deepest = 0;
            for (Element next : calls.getOrDefault(called, Set.of())) {
                deepest = Math.max(deepest, depthOf(next, above));
            }
            above.remove(above.size() - 1);
            return deepest + 1;
        }
    }

    private FormTest() {
    }
}
