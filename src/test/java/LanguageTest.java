import com.sun.source.tree.AssertTree;
import com.sun.source.tree.BinaryTree;
import com.sun.source.tree.ClassTree;
import com.sun.source.tree.CompilationUnitTree;
import com.sun.source.tree.LambdaExpressionTree;
import com.sun.source.tree.LineMap;
import com.sun.source.tree.LiteralTree;
import com.sun.source.tree.MemberReferenceTree;
import com.sun.source.tree.MethodInvocationTree;
import com.sun.source.tree.MethodTree;
import com.sun.source.tree.NewArrayTree;
import com.sun.source.tree.NewClassTree;
import com.sun.source.tree.SynchronizedTree;
import com.sun.source.tree.ThrowTree;
import com.sun.source.tree.Tree;
import com.sun.source.tree.TryTree;
import com.sun.source.tree.VariableTree;
import com.sun.source.util.JavacTask;
import com.sun.source.util.SourcePositions;
import com.sun.source.util.TreePathScanner;
import com.sun.source.util.Trees;
import java.io.File;
import java.io.IOException;
import java.lang.reflect.Constructor;
import java.lang.reflect.Field;
import java.lang.reflect.Method;
import java.lang.reflect.Modifier;
import java.util.ArrayList;
import java.util.Arrays;
import java.util.HashMap;
import java.util.HashSet;
import java.util.List;
import java.util.Map;
import java.util.Set;
import java.util.TreeSet;
import javax.lang.model.element.Element;
import javax.lang.model.element.ExecutableElement;
import javax.lang.model.element.VariableElement;
import javax.tools.JavaCompiler;
import javax.tools.StandardJavaFileManager;
import javax.tools.ToolProvider;

/** The public face, and the rules of LANGUAGE.md that can be read off the program. */
public final class LanguageTest {
    private static final File PROGRAM = new File("src/main/java/NightwatchWall.java");

    private static final String[] FACE = {
        "int base(int,int,int) IllegalArgumentException",
        "int lay(int,int) IndexOutOfBoundsException IllegalArgumentException IllegalStateException",
        "int gates(int,int) IllegalArgumentException",
        "int lamp(int,int) IndexOutOfBoundsException IllegalArgumentException IllegalStateException",
        "int light(int,boolean) IndexOutOfBoundsException",
        "int fog(int,int) IllegalArgumentException IllegalStateException",
        "int guard(int,int,int,int) IndexOutOfBoundsException IllegalArgumentException IllegalStateException",
        "int round(int,int) IndexOutOfBoundsException IllegalStateException",
        "int post(int) IndexOutOfBoundsException IllegalStateException",
        "int place(int,int) IndexOutOfBoundsException IllegalArgumentException",
        "boolean sees(int,int,int) IndexOutOfBoundsException IllegalArgumentException",
        "int ofCell(int,int,int) IndexOutOfBoundsException IllegalArgumentException",
        "int ofMinute(int,int) IllegalArgumentException",
        "int empty(int,boolean) IndexOutOfBoundsException",
        "int lapse(int,int,int) IndexOutOfBoundsException IllegalArgumentException",
        "int words(int) IllegalArgumentException",
        "int leak(int) IllegalArgumentException IllegalStateException",
        "int answer(int,int,int) IndexOutOfBoundsException IllegalArgumentException",
        "int key(int,int) IndexOutOfBoundsException",
        "int ofGuard(int,int) IndexOutOfBoundsException IllegalArgumentException",
        "int intruder(int,int,int) IndexOutOfBoundsException IllegalArgumentException IllegalStateException",
        "int wire(int,int) IndexOutOfBoundsException IllegalArgumentException IllegalStateException",
        "int where(int,int) IndexOutOfBoundsException IllegalArgumentException",
        "int ofIntruder(int,int) IndexOutOfBoundsException IllegalArgumentException",
        "int force(int,int,int) IndexOutOfBoundsException IllegalArgumentException IllegalStateException",
        "int ofWire(int,int) IndexOutOfBoundsException IllegalArgumentException",
        "int sneak(int,int,int,int) IndexOutOfBoundsException IllegalArgumentException",
        "int reach(int,int,int) IndexOutOfBoundsException IllegalArgumentException",
        "int nextLamp(int,int,boolean) IllegalArgumentException",
        "int many(int) IllegalArgumentException",
        "String drawn(int,int) IndexOutOfBoundsException IllegalArgumentException",
        "boolean isSound()",
        "int knock()",
        "long digest()"};

    private static final Set<String> LIBRARY = Set.of("java.lang.Long.bitCount", "java.lang.Integer.bitCount",
        "java.lang.StringBuilder.append", "java.lang.StringBuilder.toString");

    private static final Set<String> MADE = Set.of("StringBuilder", "IllegalStateException",
        "IllegalArgumentException", "IndexOutOfBoundsException", "Numbers", "Grid", "Lamps", "Fogs", "Guards",
        "Words", "Intruders", "Wires");

    private LanguageTest() {
    }

    public static void main(String[] args) throws IOException {
        face();
        JavaCompiler compiler = ToolProvider.getSystemJavaCompiler();
        try (StandardJavaFileManager files = compiler.getStandardFileManager(null, null, null)) {
            JavacTask task = (JavacTask) compiler.getTask(null, files, null, List.of("-proc:none"), null,
                files.getJavaFileObjects(PROGRAM));
            Iterable<? extends CompilationUnitTree> units = task.parse();
            task.analyze();
            for (CompilationUnitTree unit : units) {
                new Reader(unit, Trees.instance(task)).readAll();
            }
        }
        Script.end();
    }

    // ---- the face

    private static void face() {
        Class<?> night = NightwatchWall.class;
        Set<String> told = new TreeSet<>();
        Set<String> names = new HashSet<>();
        for (Method method : night.getDeclaredMethods()) {
            if (Modifier.isPublic(method.getModifiers())) {
                told.add(signature(method));
                names.add(method.getName());
            }
        }
        holds("the face is that of the document", told.equals(new TreeSet<>(Arrays.asList(FACE))));
        holds("the class is public and final", Modifier.isPublic(night.getModifiers())
            && Modifier.isFinal(night.getModifiers()) && night.getPackageName().isEmpty());
        Constructor<?>[] constructors = night.getDeclaredConstructors();
        holds("one public constructor", constructors.length == 1 && constructors[0].getParameterCount() == 0
            && Modifier.isPublic(constructors[0].getModifiers()) && constructors[0].getExceptionTypes().length == 0);
        for (Method method : night.getDeclaredMethods()) {
            boolean isPublic = Modifier.isPublic(method.getModifiers());
            holds("private: " + method, isPublic || Modifier.isPrivate(method.getModifiers()));
            holds("a name of its own: " + method, isPublic || !names.contains(method.getName()));
        }
        for (Field field : night.getDeclaredFields()) {
            holds("private: " + field, Modifier.isPrivate(field.getModifiers()));
        }
        for (Class<?> inside : night.getDeclaredClasses()) {
            int modifiers = inside.getModifiers();
            holds("inside: " + inside, Modifier.isStatic(modifiers) && !Modifier.isPublic(modifiers)
                && !Modifier.isProtected(modifiers));
            for (Method method : inside.getDeclaredMethods()) {
                holds("a name of its own: " + method, !names.contains(method.getName()));
            }
        }
    }

    private static String signature(Method method) {
        List<String> types = new ArrayList<>();
        for (Class<?> type : method.getParameterTypes()) {
            types.add(type.getSimpleName());
        }
        StringBuilder text = new StringBuilder(method.getReturnType().getSimpleName() + " " + method.getName()
            + "(" + String.join(",", types) + ")");
        for (Class<?> type : method.getExceptionTypes()) {
            text.append(' ').append(type.getSimpleName());
        }
        return text.toString();
    }

    private static void holds(String what, boolean isSo) {
        Script.due(what, "true", String.valueOf(isSo));
    }

    // ---- the program

    private static final class Reader extends TreePathScanner<Void, Void> {
        private final CompilationUnitTree unit;
        private final Trees trees;
        private final Map<Element, Set<Element>> calls = new HashMap<>();
        private Element caller;
        private int classes;

        Reader(CompilationUnitTree unit, Trees trees) {
            this.unit = unit;
            this.trees = trees;
        }

        void readAll() {
            holds("rule 4: no import", unit.getImports().isEmpty());
            holds("no package, one class", unit.getPackageName() == null && unit.getTypeDecls().size() == 1);
            scan(unit, null);
            holds("rule 11: some twelve classes", classes <= 12);
            for (Element method : calls.keySet()) {
                int deep = depth(method, 0);
                holds("rule 11: at most eight calls deep, and no recursion: " + method + " " + deep, deep <= 8);
            }
        }

        /** How many calls stand open at most, this one and the library's too; far too many for a circle. */
        private int depth(Element method, int above) {
            int deepest = 0;
            for (Element called : above > 20 ? Set.<Element>of() : calls.getOrDefault(method, Set.of())) {
                deepest = Math.max(deepest, depth(called, above + 1));
            }
            return deepest + 1;
        }

        private String at(Tree tree) {
            SourcePositions positions = trees.getSourcePositions();
            return " in line " + unit.getLineMap().getLineNumber(positions.getStartPosition(unit, tree));
        }

        private Element here() {
            return trees.getElement(getCurrentPath());
        }

        @Override
        public Void visitClass(ClassTree tree, Void none) {
            classes++;
            long fields = tree.getMembers().stream().filter(member -> member instanceof VariableTree)
                .filter(member -> !((VariableTree) member).getModifiers().toString().contains("static")).count();
            holds("rule 11: some twenty fields" + at(tree), fields <= 20);
            return super.visitClass(tree, none);
        }

        @Override
        public Void visitVariable(VariableTree tree, Void none) {
            Element variable = here();
            boolean isStatic = variable instanceof VariableElement
                && variable.getModifiers().contains(javax.lang.model.element.Modifier.STATIC);
            holds("rule 5: a static field is a constant" + at(tree),
                !isStatic || ((VariableElement) variable).getConstantValue() != null);
            return super.visitVariable(tree, none);
        }

        @Override
        public Void visitMethod(MethodTree tree, Void none) {
            Element before = caller;
            caller = here();
            calls.computeIfAbsent(caller, key -> new HashSet<>());
            LineMap lines = unit.getLineMap();
            SourcePositions positions = trees.getSourcePositions();
            long first = lines.getLineNumber(positions.getStartPosition(unit, tree));
            long last = lines.getLineNumber(positions.getEndPosition(unit, tree));
            holds("rule 11: a short method" + at(tree), last - first < 60);
            holds("rule 11: at most seven parameters" + at(tree), tree.getParameters().size() <= 7);
            super.visitMethod(tree, none);
            caller = before;
            return null;
        }

        @Override
        public Void visitMethodInvocation(MethodInvocationTree tree, Void none) {
            ExecutableElement called = (ExecutableElement) here();
            String owner = called.getEnclosingElement().toString();
            holds("rule 4: " + owner + "." + called.getSimpleName() + at(tree),
                owner.startsWith("NightwatchWall") || called.getSimpleName().contentEquals("<init>")
                    || LIBRARY.contains(owner + "." + called.getSimpleName()));
            if (caller != null) {
                calls.get(caller).add(called);
            }
            return super.visitMethodInvocation(tree, none);
        }

        @Override
        public Void visitNewClass(NewClassTree tree, Void none) {
            holds("rules 4, 6: new" + at(tree), MADE.contains(tree.getIdentifier().toString())
                && tree.getClassBody() == null);
            return super.visitNewClass(tree, none);
        }

        @Override
        public Void visitNewArray(NewArrayTree tree, Void none) {
            holds("no array is made by a call" + at(tree),
                caller == null || caller.getSimpleName().contentEquals("<init>"));
            return super.visitNewArray(tree, none);
        }

        @Override
        public Void visitThrow(ThrowTree tree, Void none) {
            holds("rule 6: no throw in a constructor, a new one always" + at(tree),
                !caller.getSimpleName().contentEquals("<init>") && tree.getExpression() instanceof NewClassTree);
            return super.visitThrow(tree, none);
        }

        @Override
        public Void visitBinary(BinaryTree tree, Void none) {
            boolean isText = tree.getKind() == Tree.Kind.PLUS
                && trees.getTypeMirror(getCurrentPath()).toString().equals("java.lang.String");
            holds("rule 10: no texts joined by +" + at(tree), !isText);
            return super.visitBinary(tree, none);
        }

        @Override
        public Void visitLiteral(LiteralTree tree, Void none) {
            boolean isFloating = tree.getKind() == Tree.Kind.DOUBLE_LITERAL
                || tree.getKind() == Tree.Kind.FLOAT_LITERAL;
            boolean isPlain = !(tree.getValue() instanceof String)
                || ((String) tree.getValue()).chars().allMatch(sign -> sign >= 1 && sign <= 127);
            holds("rule 4: signs of 1 to 127" + at(tree), isPlain && !isFloating);
            return super.visitLiteral(tree, none);
        }

        @Override
        public Void visitTry(TryTree tree, Void none) {
            holds("nothing is caught" + at(tree), false);
            return super.visitTry(tree, none);
        }

        @Override
        public Void visitLambdaExpression(LambdaExpressionTree tree, Void none) {
            holds("rule 2: no lambda" + at(tree), false);
            return super.visitLambdaExpression(tree, none);
        }

        @Override
        public Void visitMemberReference(MemberReferenceTree tree, Void none) {
            holds("rule 2: no method reference" + at(tree), false);
            return super.visitMemberReference(tree, none);
        }

        @Override
        public Void visitAssert(AssertTree tree, Void none) {
            holds("rule 6: no assert" + at(tree), false);
            return super.visitAssert(tree, none);
        }

        @Override
        public Void visitSynchronized(SynchronizedTree tree, Void none) {
            holds("rule 6: no synchronized" + at(tree), false);
            return super.visitSynchronized(tree, none);
        }
    }
}
