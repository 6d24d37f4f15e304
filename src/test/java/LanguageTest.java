import com.sun.source.tree.AssertTree;
import com.sun.source.tree.ClassTree;
import com.sun.source.tree.CompilationUnitTree;
import com.sun.source.tree.DoWhileLoopTree;
import com.sun.source.tree.ExpressionTree;
import com.sun.source.tree.ForLoopTree;
import com.sun.source.tree.LambdaExpressionTree;
import com.sun.source.tree.MemberReferenceTree;
import com.sun.source.tree.MemberSelectTree;
import com.sun.source.tree.MethodInvocationTree;
import com.sun.source.tree.MethodTree;
import com.sun.source.tree.NewClassTree;
import com.sun.source.tree.SynchronizedTree;
import com.sun.source.tree.ThrowTree;
import com.sun.source.tree.Tree;
import com.sun.source.tree.TryTree;
import com.sun.source.tree.TypeCastTree;
import com.sun.source.tree.VariableTree;
import com.sun.source.tree.WhileLoopTree;
import com.sun.source.util.JavacTask;
import com.sun.source.util.TreePath;
import com.sun.source.util.TreePathScanner;
import com.sun.source.util.Trees;
import java.lang.reflect.Field;
import java.lang.reflect.Method;
import java.lang.reflect.Modifier;
import java.util.ArrayList;
import java.util.Arrays;
import java.util.HashMap;
import java.util.HashSet;
import java.util.List;
import java.util.Map;
import java.util.Set;
import java.util.TreeSet;
import javax.lang.model.element.Element;
import javax.lang.model.element.ElementKind;
import javax.lang.model.type.ArrayType;
import javax.lang.model.type.TypeKind;
import javax.lang.model.type.TypeMirror;
import javax.tools.JavaCompiler;
import javax.tools.StandardJavaFileManager;
import javax.tools.ToolProvider;

/** The rules of LANGUAGE.md that can be looked up in the source and in the compiled class. */
public final class LanguageTest {
    private static final String SOURCE = "src/main/java/BellRingers.java";
    private static final String FACE = "feed(int,int,int,int,int)int end(int)int village()int fault(int)int "
        + "person(int,int)int loss(int,int)int weight(int,int)int ringer(int)int hour(int)int day()int "
        + "want(int,int,int)int leave(int)int come(int)int gift(int,int)int undo()boolean redo()boolean "
        + "will(int,int,int)int purse(int,int)int cost(int)int order()int duties(int)int hush(int)int spare(int)int "
        + "chorus(int)int wish(int,int)int ruin(int)int hides(int)int staying(int,int)int slight(int)int list()int "
        + "silent()int dreaded()int untouched()int richest()int busiest()int law(int)int hushed(int)int odds(int,int)int "
        + "lies(int)int seen(int,int,int,boolean)int untell(int)boolean later(int)int fits(int)int sure(int,int)int "
        + "ask(int,int,int)int image(int)int back(int)int about(int)int";
    private static final Set<String> LIBRARY = Set.of("java.lang.Math.min", "java.lang.Math.max", "java.lang.Math.abs",
        "java.lang.Integer.bitCount", "java.lang.System.arraycopy", "java.util.Arrays.fill", "java.lang.Object.super");

    private static final Map<String, Set<String>> CALLS = new HashMap<>();

    private LanguageTest() {
    }

    private static void hold(String rule, boolean so) {
        Check.same(rule, so, true);
    }

    // ---- the face, rules 1 and 5

    private static String signature(Method method) {
        List<String> types = new ArrayList<>();
        for (Class<?> type : method.getParameterTypes()) {
            types.add(type.getName());
        }
        return method.getName() + "(" + String.join(",", types) + ")" + method.getReturnType().getName();
    }

    private static void checkFace() throws Exception {
        Set<String> face = new TreeSet<>(Arrays.asList(FACE.split(" ")));
        Set<String> found = new TreeSet<>();
        Set<String> names = new HashSet<>();
        for (Method method : BellRingers.class.getDeclaredMethods()) {
            if (Modifier.isPublic(method.getModifiers())) {
                found.add(signature(method));
                names.add(method.getName());
            } else {
                hold("private: " + method, Modifier.isPrivate(method.getModifiers()));
            }
        }
        Check.same("the face " + found, found.equals(face), true);
        Check.same("methods of the face", found.size(), 48);
        for (Field field : BellRingers.class.getDeclaredFields()) {
            boolean isNone = field.getName().equals("NONE");
            hold("private: " + field, isNone || Modifier.isPrivate(field.getModifiers()));
        }
        hold("final and public", BellRingers.class.getModifiers() == (Modifier.FINAL | Modifier.PUBLIC));
        Check.same("NONE", BellRingers.NONE, -1);
        Check.same("constructors", BellRingers.class.getConstructors().length, 1);
        Check.same("NONE is final", BellRingers.class.getField("NONE").getModifiers() & Modifier.FINAL, Modifier.FINAL);
        checkInside(names);
    }

    private static void checkInside(Set<String> names) {
        Class<?>[] inside = BellRingers.class.getDeclaredClasses();
        hold("some twelve classes", inside.length + 1 <= 12);
        List<Class<?>> all = new ArrayList<>(Arrays.asList(inside));
        all.add(BellRingers.class);
        for (Class<?> type : all) {
            hold("static: " + type, type == BellRingers.class || Modifier.isStatic(type.getModifiers()));
            int fields = 0;
            for (Field field : type.getDeclaredFields()) {
                if (Modifier.isStatic(field.getModifiers())) {
                    hold("final: " + field, Modifier.isFinal(field.getModifiers()));
                } else {
                    fields++;
                }
            }
            hold("some twenty fields: " + type, fields <= 20);
            for (Method method : type.getDeclaredMethods()) {
                hold("a name of its own: " + method, type == BellRingers.class
                    && Modifier.isPublic(method.getModifiers()) || !names.contains(method.getName()));
            }
        }
    }

    // ---- the source, rules 2, 3, 4, 6, 8, 9, 11

    private static final class Look extends TreePathScanner<Void, Void> {
        private final Trees trees;
        private final CompilationUnitTree unit;
        private String method = "";

        Look(Trees trees, CompilationUnitTree unit) {
            this.trees = trees;
            this.unit = unit;
        }

        private void refuse(String what, Tree tree) {
            long line = unit.getLineMap().getLineNumber(trees.getSourcePositions().getStartPosition(unit, tree));
            hold(what + " in line " + line, false);
        }

        private long lineAt(long position) {
            return unit.getLineMap().getLineNumber(position);
        }

        @Override
        public Void visitMethod(MethodTree tree, Void none) {
            Element element = trees.getElement(getCurrentPath());
            String outer = method;
            method = element.getEnclosingElement() + "." + element;
            CALLS.computeIfAbsent(method, key -> new TreeSet<>());
            long first = lineAt(trees.getSourcePositions().getStartPosition(unit, tree));
            long last = lineAt(Math.max(0, trees.getSourcePositions().getEndPosition(unit, tree)));
            hold("some sixty lines: " + method, last - first < 60);
            hold("seven parameters: " + method, tree.getParameters().size() <= 7);
            super.visitMethod(tree, none);
            method = outer;
            return null;
        }

        @Override
        public Void visitMethodInvocation(MethodInvocationTree tree, Void none) {
            Element element = trees.getElement(new TreePath(getCurrentPath(), tree.getMethodSelect()));
            String owner = element.getEnclosingElement().toString();
            if (owner.startsWith("BellRingers")) {
                CALLS.computeIfAbsent(method, key -> new TreeSet<>()).add(owner + "." + element);
            } else if (element.getKind() != ElementKind.CONSTRUCTOR) {
                String name = owner + "." + element.getSimpleName();
                hold("in the library: " + name, LIBRARY.contains(name));
                hold("numbers alone: " + element, !element.toString().contains("boolean"));
            }
            return super.visitMethodInvocation(tree, none);
        }

        /** Rule 4 names calls alone: no field of the library (Integer.MAX_VALUE, System.out), but an array's length. */
        @Override
        public Void visitMemberSelect(MemberSelectTree tree, Void none) {
            Element element = trees.getElement(getCurrentPath());
            if (element != null && element.getKind() == ElementKind.FIELD) {
                TypeMirror of = trees.getTypeMirror(new TreePath(getCurrentPath(), tree.getExpression()));
                hold("no field of the library: " + tree, of != null
                    && (of.getKind() == TypeKind.ARRAY || of.toString().startsWith("BellRingers")));
            }
            return super.visitMemberSelect(tree, none);
        }

        /** Rule 3, as far as the class goes: numbers, booleans, its own classes, and rows of these. */
        private static boolean isTaken(TypeMirror type, boolean inRow) {
            if (type.getKind() == TypeKind.ARRAY) {
                return !inRow && isTaken(((ArrayType) type).getComponentType(), true);
            }
            return type.getKind().isPrimitive() || type.toString().startsWith("BellRingers");
        }

        @Override
        public Void visitVariable(VariableTree tree, Void none) {
            hold("a type of rule 3: " + tree, isTaken(trees.getElement(getCurrentPath()).asType(), false));
            return super.visitVariable(tree, none);
        }

        @Override
        public Void visitTypeCast(TypeCastTree tree, Void none) {
            TypeMirror type = trees.getTypeMirror(new TreePath(getCurrentPath(), tree.getType()));
            hold("a cast of a number: " + tree, type.getKind().isPrimitive());
            return super.visitTypeCast(tree, none);
        }

        private void checkEnd(ExpressionTree condition, Tree loop) {
            String until = condition == null ? "true" : condition.toString();
            if (until.replaceAll("[()]", "").equals("true")) {
                refuse("a loop without an end", loop);
            }
        }

        @Override
        public Void visitForLoop(ForLoopTree tree, Void none) {
            checkEnd(tree.getCondition(), tree);
            return super.visitForLoop(tree, none);
        }

        @Override
        public Void visitWhileLoop(WhileLoopTree tree, Void none) {
            checkEnd(tree.getCondition(), tree);
            return super.visitWhileLoop(tree, none);
        }

        @Override
        public Void visitDoWhileLoop(DoWhileLoopTree tree, Void none) {
            checkEnd(tree.getCondition(), tree);
            return super.visitDoWhileLoop(tree, none);
        }

        @Override
        public Void visitThrow(ThrowTree tree, Void none) {
            refuse("throw", tree);
            return super.visitThrow(tree, none);
        }

        @Override
        public Void visitTry(TryTree tree, Void none) {
            refuse("try", tree);
            return super.visitTry(tree, none);
        }

        @Override
        public Void visitAssert(AssertTree tree, Void none) {
            refuse("assert", tree);
            return super.visitAssert(tree, none);
        }

        @Override
        public Void visitSynchronized(SynchronizedTree tree, Void none) {
            refuse("synchronized", tree);
            return super.visitSynchronized(tree, none);
        }

        @Override
        public Void visitLambdaExpression(LambdaExpressionTree tree, Void none) {
            refuse("a lambda", tree);
            return super.visitLambdaExpression(tree, none);
        }

        @Override
        public Void visitMemberReference(MemberReferenceTree tree, Void none) {
            refuse("a method reference", tree);
            return super.visitMemberReference(tree, none);
        }

        @Override
        public Void visitNewClass(NewClassTree tree, Void none) {
            if (tree.getClassBody() != null) {
                refuse("an anonymous class", tree);
            }
            return super.visitNewClass(tree, none);
        }

        @Override
        public Void visitClass(ClassTree tree, Void none) {
            if (!method.isEmpty()) {
                refuse("a local class", tree);
            }
            return super.visitClass(tree, none);
        }
    }

    private static boolean reaches(String from, String to, Set<String> gone) {
        for (String next : CALLS.getOrDefault(from, Set.of())) {
            if (next.equals(to) || gone.add(next) && reaches(next, to, gone)) {
                return true;
            }
        }
        return false;
    }

    /** The most calls that stand open at once, those that call one another counted once. */
    private static int depth(String from, List<String> open) {
        int most = 0;
        for (String next : CALLS.getOrDefault(from, Set.of())) {
            if (!open.contains(next)) {
                List<String> longer = new ArrayList<>(open);
                longer.add(next);
                boolean circle = reaches(next, from, new HashSet<>());
                most = Math.max(most, depth(next, longer) - (circle ? 1 : 0));
            }
        }
        return most + 1;
    }

    private static void checkSource() throws Exception {
        JavaCompiler compiler = ToolProvider.getSystemJavaCompiler();
        try (StandardJavaFileManager files = compiler.getStandardFileManager(null, null, null)) {
            JavacTask task = (JavacTask) compiler.getTask(null, files, null, null, null, files.getJavaFileObjects(SOURCE));
            Iterable<? extends CompilationUnitTree> units = task.parse();
            task.analyze();
            for (CompilationUnitTree unit : units) {
                hold("no package", unit.getPackageName() == null);
                for (Tree line : unit.getImports()) {
                    hold("imports: " + line, line.toString().trim().equals("import java.util.Arrays;"));
                }
                new Look(Trees.instance(task), unit).scan(unit, null);
            }
        }
        for (String method : CALLS.keySet()) {
            int deep = depth(method, List.of(method));
            hold("eight deep at most, " + deep + ": " + method, deep <= 8);
        }
    }

    public static void main(String[] args) throws Exception {
        checkFace();
        checkSource();
        Check.finish();
    }
}
