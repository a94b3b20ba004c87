import com.sun.source.tree.AssertTree;
import com.sun.source.tree.BinaryTree;
import com.sun.source.tree.BlockTree;
import com.sun.source.tree.ClassTree;
import com.sun.source.tree.CompilationUnitTree;
import com.sun.source.tree.CompoundAssignmentTree;
import com.sun.source.tree.DoWhileLoopTree;
import com.sun.source.tree.ExpressionTree;
import com.sun.source.tree.ForLoopTree;
import com.sun.source.tree.IdentifierTree;
import com.sun.source.tree.InstanceOfTree;
import com.sun.source.tree.LambdaExpressionTree;
import com.sun.source.tree.LiteralTree;
import com.sun.source.tree.MemberReferenceTree;
import com.sun.source.tree.MemberSelectTree;
import com.sun.source.tree.MethodInvocationTree;
import com.sun.source.tree.MethodTree;
import com.sun.source.tree.NewArrayTree;
import com.sun.source.tree.NewClassTree;
import com.sun.source.tree.ParenthesizedTree;
import com.sun.source.tree.SynchronizedTree;
import com.sun.source.tree.ThrowTree;
import com.sun.source.tree.Tree;
import com.sun.source.tree.TryTree;
import com.sun.source.tree.TypeCastTree;
import com.sun.source.tree.VariableTree;
import com.sun.source.tree.WhileLoopTree;
import com.sun.source.util.JavacTask;
import com.sun.source.util.TreePath;
import com.sun.source.util.TreePathScanner;
import com.sun.source.util.Trees;
import java.io.File;
import java.lang.reflect.Constructor;
import java.lang.reflect.Field;
import java.lang.reflect.Method;
import java.lang.reflect.Modifier;
import java.util.ArrayList;
import java.util.Arrays;
import java.util.HashMap;
import java.util.HashSet;
import java.util.List;
import java.util.Map;
import java.util.Set;
import java.util.TreeSet;
import javax.lang.model.element.Element;
import javax.lang.model.element.ExecutableElement;
import javax.lang.model.element.TypeElement;
import javax.lang.model.type.TypeKind;
import javax.lang.model.type.TypeMirror;
import javax.tools.JavaCompiler;
import javax.tools.StandardJavaFileManager;
import javax.tools.ToolProvider;

/** The face of the class, and the rules of LANGUAGE.md that its source can be asked about, by their numbers. */
public final class LanguageTest {
    private static final Check check = new Check("LanguageTest");
    private static final String FACE = "int feed(int,int,int,int,int); int end(int); int ring(); int fault(int); "
        + "int go(int); int post(int,int); int went(int); long left(); int when(int); long late(int); int bribe(int); "
        + "long stay(int); int meet(); long begins(int); int chooses(long); int order(int); int keep(int); int judge(); "
        + "long far(long,int,long); long at(long,int,long); int size(int,int,int); int keeps(int,long); "
        + "int first(int,long); long number(int); int guess(int,int); long never(int,int); int often(int,int,int); "
        + "int ever(int); int chance(int,int,int); int choice(int,int); int expected(int,int,int); "
        + "int sight(int,int,int); boolean untell(int); int later(int); int fits(int,int); int ask(int,int,int); "
        + "int image(int); int back(int); int about(int)";
    private static final Set<String> LIBRARY = Set.of("String.length", "String.charAt", "String.isEmpty", "String.equals",
        "String.indexOf", "String.substring", "String.toCharArray", "Long.bitCount", "Long.numberOfTrailingZeros", "Math.floorMod",
        "Math.floorDiv", "Math.max", "Math.min", "Math.abs", "System.arraycopy", "Arrays.fill", "Arrays.copyOf", "Arrays.copyOfRange",
        "Object.<init>");
    private static final int DEEPEST_CHAIN = 8;

    public static void main(String[] args) throws Exception {
        face();
        source(new File(System.getProperty("postring.source", "src/main/java/PostRing.java")));
        check.close();
    }

    /** Rule 1. */
    private static void face() {
        Set<String> want = new TreeSet<>(Arrays.asList(FACE.split("; ")));
        Set<String> got = new TreeSet<>();
        for (Method method : PostRing.class.getDeclaredMethods()) {
            if (!Modifier.isPrivate(method.getModifiers())) {
                StringBuilder types = new StringBuilder();
                for (Class<?> type : method.getParameterTypes()) {
                    types.append(types.length() == 0 ? "" : ",").append(type);
                }
                got.add(method.getReturnType() + " " + method.getName() + "(" + types + ")");
                check.due("1: " + method + " is public", Modifier.isPublic(method.getModifiers()), true);
                check.due("1: " + method + " is no static one", Modifier.isStatic(method.getModifiers()), false);
                check.due("6: " + method + " names no exception", method.getExceptionTypes().length, 0);
            }
        }
        check.due("1: the face is " + got, got.equals(want), true);
        for (Field field : PostRing.class.getDeclaredFields()) {
            check.due("1: " + field + " is private", Modifier.isPrivate(field.getModifiers()), !field.getName().equals("NONE"));
        }
        Constructor<?>[] constructors = PostRing.class.getDeclaredConstructors();
        check.due("1: one constructor", constructors.length, 1);
        check.due("1: without arguments", constructors[0].getParameterCount(), 0);
        check.due("1: public", Modifier.isPublic(constructors[0].getModifiers()), true);
        check.due("1: public and final", PostRing.class.getModifiers(), Modifier.PUBLIC | Modifier.FINAL);
        check.due("1: of nothing else", PostRing.class.getSuperclass() == Object.class && PostRing.class.getInterfaces().length == 0, true);
        for (Class<?> inside : PostRing.class.getDeclaredClasses()) {
            int flags = inside.getModifiers();
            check.due("1: " + inside + " is private or package-visible", Modifier.isPublic(flags) || Modifier.isProtected(flags), false);
            check.due("1: " + inside + " is static", Modifier.isStatic(flags), true);
        }
    }

    private static void source(File file) throws Exception {
        JavaCompiler compiler = ToolProvider.getSystemJavaCompiler();
        StandardJavaFileManager files = compiler.getStandardFileManager(null, null, null);
        JavacTask task = (JavacTask) compiler.getTask(null, files, null, List.of("-proc:none"), null, files.getJavaFileObjects(file));
        CompilationUnitTree unit = task.parse().iterator().next();
        task.analyze();
        Rules rules = new Rules(unit, Trees.instance(task));
        rules.scan(unit, null);
        check.due("no package line", unit.getPackageName() == null, true);
        check.due("one class in the file", unit.getTypeDecls().size(), 1);
        check.due("4: one import alone", unit.getImports().toString().trim().equals("import java.util.Arrays;"), true);
        check.due("4: signs 1 to 127 alone", java.nio.file.Files.readString(file.toPath()).chars().allMatch(c -> c > 0 && c < 128), true);
        check.due("11: some twelve classes", rules.classes <= 12, true);
        new Calls(rules.calls, rules.depthful).compare();
    }

    /** Rules 8 and 11: who calls whom. */
    private static final class Calls {
        private final Map<String, Set<String>> calls;
        private final Set<String> depthful;
        private final Map<String, Integer> deepest = new HashMap<>();

        Calls(Map<String, Set<String>> calls, Set<String> depthful) {
            this.calls = calls;
            this.depthful = depthful;
        }

        void compare() {
            for (String method : calls.keySet()) {
                if (reaches(method, method, new HashSet<>())) {
                    check.due("8: " + method + " calls itself and carries its depth", depthful.contains(method), true);
                }
                check.due("11: " + method + " goes at most eight deep", depth(method) <= DEEPEST_CHAIN, true);
            }
            check.due("methods were seen", calls.size() > 100, true);
        }

        private boolean reaches(String from, String to, Set<String> seen) {
            for (String next : calls.getOrDefault(from, Set.of())) {
                if (next.equals(to) || seen.add(next) && reaches(next, to, seen)) {
                    return true;
                }
            }
            return false;
        }

        /** Those that call one another count as one. */
        private int depth(String method) {
            Integer known = deepest.get(method);
            if (known != null) {
                return known;
            }
            Set<String> among = new HashSet<>(Set.of(method));
            for (String other : calls.keySet()) {
                if (reaches(method, other, new HashSet<>()) && reaches(other, method, new HashSet<>())) {
                    among.add(other);
                }
            }
            int most = 0;
            for (String one : among) {
                for (String next : calls.getOrDefault(one, Set.of())) {
                    most = among.contains(next) ? most : Math.max(most, depth(next));
                }
            }
            deepest.put(method, most + 1);
            return most + 1;
        }
    }

    /** Looks for what the rules leave out. */
    private static final class Rules extends TreePathScanner<Void, Void> {
        final CompilationUnitTree unit;
        final Trees trees;
        final Map<String, Set<String>> calls = new HashMap<>();
        final Set<String> depthful = new HashSet<>();
        int classes;
        private String method = "";
        private boolean constructing = true;

        Rules(CompilationUnitTree unit, Trees trees) {
            this.unit = unit;
            this.trees = trees;
        }

        private long line(Tree tree, boolean end) {
            long at = end ? trees.getSourcePositions().getEndPosition(unit, tree)
                : trees.getSourcePositions().getStartPosition(unit, tree);
            return unit.getLineMap().getLineNumber(at);
        }

        private void hold(boolean holds, Tree tree, String rule) {
            check.due(rule + ", in line " + line(tree, false), holds, true);
        }

        private Void refused(Tree tree, String what) {
            hold(false, tree, what);
            return null;
        }

        private TypeMirror typeOf(Tree tree) {
            return trees.getTypeMirror(new TreePath(getCurrentPath(), tree));
        }

        private static boolean isAllowed(String type) {
            return type.matches("(int|long|short|byte|char|double|float)(\\[\\]){0,2}|boolean(\\[\\])?|void"
                + "|java\\.lang\\.(String|StringBuilder)|PostRing(\\.\\w+)?(\\[\\])?");
        }

        @Override public Void visitClass(ClassTree tree, Void none) {
            classes++;
            hold(method.isEmpty(), tree, "2: no local class");
            int fields = 0;
            for (Tree member : tree.getMembers()) {
                if (member instanceof VariableTree) {
                    fields += isStatic((VariableTree) member) ? 0 : 1;
                    field((VariableTree) member);
                }
                hold(!(member instanceof BlockTree), member, "5: no initialiser block");
            }
            hold(fields <= 20, tree, "11: some twenty fields");
            return super.visitClass(tree, none);
        }

        private static boolean isStatic(VariableTree field) {
            return field.getModifiers().getFlags().contains(javax.lang.model.element.Modifier.STATIC);
        }

        private void field(VariableTree field) {
            if (isStatic(field)) {
                String type = field.getType().toString();
                hold(field.getModifiers().getFlags().contains(javax.lang.model.element.Modifier.FINAL), field, "5: static is final");
                hold(type.matches("int|long|boolean|char|String|(int|long|char|byte)\\[\\]"), field, "5: a constant of " + type);
                hold(!type.endsWith("[]") || field.getInitializer() instanceof NewArrayTree, field, "5: an array written out");
            }
        }

        @Override public Void visitMethod(MethodTree tree, Void none) {
            ExecutableElement element = (ExecutableElement) trees.getElement(getCurrentPath());
            method = nameOf(element);
            constructing = element.getSimpleName().contentEquals("<init>");
            calls.putIfAbsent(method, new TreeSet<>());
            hold(tree.getParameters().size() <= 7, tree, "11: seven parameters at most");
            hold(line(tree, true) - line(tree, false) < 60, tree, "11: a short method");
            hold(tree.getThrows().isEmpty(), tree, "6: no exception is named");
            Set<javax.lang.model.element.Modifier> flags = tree.getModifiers().getFlags();
            boolean open = flags.contains(javax.lang.model.element.Modifier.PUBLIC);
            hold(open || !FACE.contains(" " + tree.getName() + "("), tree, "1: " + tree.getName() + " bears a name of its own");
            hold(!tree.getName().toString().matches("equals|hashCode|toString"), tree, "6: no equals, hashCode, toString");
            for (VariableTree parameter : tree.getParameters()) {
                if (parameter.getName().contentEquals("depth") && flags.contains(javax.lang.model.element.Modifier.PRIVATE)) {
                    depthful.add(method);
                }
            }
            hold(isAllowed(element.getReturnType().toString()), tree, "3: answers " + element.getReturnType());
            super.visitMethod(tree, none);
            method = "";
            constructing = true;
            return null;
        }

        private static String nameOf(ExecutableElement element) {
            return element.getEnclosingElement().getSimpleName() + "." + element.getSimpleName() + element.getParameters().size();
        }

        private static boolean isOwn(Element element) {
            Element outer = element;
            while (outer != null && !(outer.getSimpleName().contentEquals("PostRing") && outer instanceof TypeElement)) {
                outer = outer.getEnclosingElement();
            }
            return outer != null;
        }

        private void called(Tree tree, Element element) {
            if (element instanceof ExecutableElement && isOwn(element)) {
                calls.computeIfAbsent(method, name -> new TreeSet<>()).add(nameOf((ExecutableElement) element));
            } else if (element != null) {
                String name = element.getEnclosingElement().getSimpleName() + "." + element.getSimpleName();
                hold(LIBRARY.contains(name), tree, "4: the library has " + name);
            }
        }

        @Override public Void visitMethodInvocation(MethodInvocationTree tree, Void none) {
            called(tree, trees.getElement(getCurrentPath()));
            return super.visitMethodInvocation(tree, none);
        }

        @Override public Void visitNewClass(NewClassTree tree, Void none) {
            hold(tree.getClassBody() == null, tree, "2: no anonymous class");
            hold(constructing, tree, "12: objects are made in constructors alone");
            called(tree, trees.getElement(getCurrentPath()));
            return super.visitNewClass(tree, none);
        }

        @Override public Void visitNewArray(NewArrayTree tree, Void none) {
            hold(constructing, tree, "12: arrays are made in constructors alone");
            return super.visitNewArray(tree, none);
        }

        @Override public Void visitVariable(VariableTree tree, Void none) {
            TypeMirror type = trees.getTypeMirror(getCurrentPath());
            hold(isAllowed(type.toString()), tree, "3: " + tree.getName() + " is of type " + type);
            return super.visitVariable(tree, none);
        }

        @Override public Void visitIdentifier(IdentifierTree tree, Void none) {
            Element element = trees.getElement(getCurrentPath());
            if (element instanceof TypeElement && !isOwn(element)) {
                hold(Set.of("Arrays", "Math", "Long", "Integer", "System", "String", "StringBuilder")
                    .contains(tree.getName().toString()), tree, "4: the library has " + tree.getName());
            }
            return super.visitIdentifier(tree, none);
        }

        @Override public Void visitMemberSelect(MemberSelectTree tree, Void none) {
            Element element = trees.getElement(getCurrentPath());
            if (element != null && element.getKind().isField() && !isOwn(element)) {
                hold(tree.toString().matches("\\w+(\\.\\w+)*\\.length|(Integer|Long)\\.M(AX|IN)_VALUE"), tree, "4: the library has " + tree);
            }
            return super.visitMemberSelect(tree, none);
        }

        @Override public Void visitBinary(BinaryTree tree, Void none) {
            boolean text = isText(tree.getLeftOperand()) || isText(tree.getRightOperand());
            hold(!text || tree.getKind() != Tree.Kind.PLUS, tree, "10: no text joined by +");
            hold(!text || tree.getKind() != Tree.Kind.EQUAL_TO && tree.getKind() != Tree.Kind.NOT_EQUAL_TO, tree, "6: no == of texts");
            return super.visitBinary(tree, none);
        }

        @Override public Void visitCompoundAssignment(CompoundAssignmentTree tree, Void none) {
            hold(!isText(tree.getVariable()), tree, "10: no text joined by +=");
            return super.visitCompoundAssignment(tree, none);
        }

        private boolean isText(Tree tree) {
            TypeMirror type = typeOf(tree);
            return type != null && type.toString().equals("java.lang.String");
        }

        @Override public Void visitTypeCast(TypeCastTree tree, Void none) {
            hold(typeOf(tree.getType()).getKind().isPrimitive() && typeOf(tree.getExpression()).getKind().isPrimitive(), tree,
                "6: casts of numbers alone");
            return super.visitTypeCast(tree, none);
        }

        @Override public Void visitForLoop(ForLoopTree tree, Void none) {
            bounded(tree, tree.getCondition());
            return super.visitForLoop(tree, none);
        }

        @Override public Void visitWhileLoop(WhileLoopTree tree, Void none) {
            bounded(tree, tree.getCondition());
            return super.visitWhileLoop(tree, none);
        }

        @Override public Void visitDoWhileLoop(DoWhileLoopTree tree, Void none) {
            bounded(tree, tree.getCondition());
            return super.visitDoWhileLoop(tree, none);
        }

        /** A counter against a bound: one part of what is asked compares by <, <=, > or >=. */
        private void bounded(Tree loop, ExpressionTree condition) {
            List<ExpressionTree> parts = new ArrayList<>();
            if (condition != null) {
                parts.add(condition);
            }
            boolean holds = false;
            for (int i = 0; i < parts.size() && i < 100; i++) {
                ExpressionTree part = parts.get(i);
                if (part instanceof ParenthesizedTree) {
                    parts.add(((ParenthesizedTree) part).getExpression());
                } else if (part.getKind() == Tree.Kind.CONDITIONAL_AND) {
                    parts.add(((BinaryTree) part).getLeftOperand());
                    parts.add(((BinaryTree) part).getRightOperand());
                }
                holds |= Set.of(Tree.Kind.LESS_THAN, Tree.Kind.LESS_THAN_EQUAL, Tree.Kind.GREATER_THAN, Tree.Kind.GREATER_THAN_EQUAL)
                    .contains(part.getKind());
            }
            hold(holds, loop, "9: a loop with a bound");
        }

        @Override public Void visitLiteral(LiteralTree tree, Void none) {
            if (tree.getValue() instanceof String) {
                hold(((String) tree.getValue()).chars().allMatch(c -> c > 0 && c < 128), tree, "4: signs 1 to 127");
            }
            hold(typeOf(tree) == null || typeOf(tree).getKind() != TypeKind.DOUBLE, tree, "no double is needed");
            return super.visitLiteral(tree, none);
        }

        @Override public Void visitInstanceOf(InstanceOfTree tree, Void none) {
            return refused(tree, "6: instanceof is not needed");
        }

        @Override public Void visitThrow(ThrowTree tree, Void none) {
            return refused(tree, "6: throw");
        }

        @Override public Void visitTry(TryTree tree, Void none) {
            return refused(tree, "6: try");
        }

        @Override public Void visitSynchronized(SynchronizedTree tree, Void none) {
            return refused(tree, "6: synchronized");
        }

        @Override public Void visitAssert(AssertTree tree, Void none) {
            return refused(tree, "6: assert");
        }

        @Override public Void visitLambdaExpression(LambdaExpressionTree tree, Void none) {
            return refused(tree, "2: a lambda");
        }

        @Override public Void visitMemberReference(MemberReferenceTree tree, Void none) {
            return refused(tree, "2: a method reference");
        }
    }
}
