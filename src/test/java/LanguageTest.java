import com.sun.source.tree.AssertTree;
import com.sun.source.tree.BinaryTree;
import com.sun.source.tree.ClassTree;
import com.sun.source.tree.CompilationUnitTree;
import com.sun.source.tree.IdentifierTree;
import com.sun.source.tree.LambdaExpressionTree;
import com.sun.source.tree.LiteralTree;
import com.sun.source.tree.MemberReferenceTree;
import com.sun.source.tree.MemberSelectTree;
import com.sun.source.tree.MethodInvocationTree;
import com.sun.source.tree.MethodTree;
import com.sun.source.tree.NewClassTree;
import com.sun.source.tree.SynchronizedTree;
import com.sun.source.tree.ThrowTree;
import com.sun.source.tree.Tree;
import com.sun.source.tree.TryTree;
import com.sun.source.tree.VariableTree;
import com.sun.source.util.JavacTask;
import com.sun.source.util.TreeScanner;
import com.sun.source.util.Trees;
import java.io.File;
import java.lang.reflect.Constructor;
import java.lang.reflect.Field;
import java.lang.reflect.Method;
import java.lang.reflect.Modifier;
import java.util.Arrays;
import java.util.HashSet;
import java.util.List;
import java.util.Set;
import java.util.TreeSet;
import javax.tools.JavaCompiler;
import javax.tools.StandardJavaFileManager;
import javax.tools.ToolProvider;

/** The face of the class, and the rules of LANGUAGE.md that its source can be asked about. */
public final class LanguageTest {
    private static final Check check = new Check("LanguageTest");
    private static final String FACE = "int feed(int,int,int,int,int); int end(int); int ring(); int fault(int); "
        + "int go(int); int post(int,int); int went(int); long left(); int when(int); long late(int); int bribe(int); "
        + "long stay(int); int meet(); long begins(int); int chooses(long); int order(int); int keep(int); int judge(); "
        + "long far(long,int,long); long at(long,int,long); int size(int,int,int); int keeps(int,long); "
        + "int first(int,long); long number(int); int guess(int,int); long never(int,int); int often(int,int,int); "
        + "int ever(int); int chance(int,int,int); int choice(int,int); int expected(int,int,int); "
        + "int sight(int,int,int); boolean untell(int); int later(int); int fits(int,int); int ask(int,int,int); "
        + "int image(int); int back(int); int about(int)";
    private static final Set<String> LIBRARY = new HashSet<>(List.of("length", "charAt", "bitCount", "floorMod", "max",
        "min", "abs", "numberOfTrailingZeros", "arraycopy", "fill"));

    public static void main(String[] args) throws Exception {
        face();
        source(new File(System.getProperty("postring.source", "src/main/java/PostRing.java")));
        check.close();
    }

    private static void face() {
        Set<String> want = new TreeSet<>(Arrays.asList(FACE.split("; ")));
        Set<String> got = new TreeSet<>();
        for (Method method : PostRing.class.getDeclaredMethods()) {
            if (!Modifier.isPrivate(method.getModifiers())) {
                StringBuilder types = new StringBuilder();
                for (Class<?> type : method.getParameterTypes()) {
                    types.append(types.length() == 0 ? "" : ",").append(type);
                }
                got.add(method.getReturnType() + " " + method.getName() + "(" + types + ")");
                check.due(method + " is public", Modifier.isPublic(method.getModifiers()), true);
            } else {
                check.due(method + " bears no public name", FACE.contains(" " + method.getName() + "("), false);
            }
        }
        check.due("the face is " + got, got.equals(want), true);
        for (Field field : PostRing.class.getDeclaredFields()) {
            check.due(field + " is private", Modifier.isPrivate(field.getModifiers()), !field.getName().equals("NONE"));
        }
        Constructor<?>[] constructors = PostRing.class.getDeclaredConstructors();
        check.due("one constructor", constructors.length, 1);
        check.due("without arguments", constructors[0].getParameterCount(), 0);
        check.due("final", Modifier.isFinal(PostRing.class.getModifiers()), true);
    }

    private static void source(File file) throws Exception {
        JavaCompiler compiler = ToolProvider.getSystemJavaCompiler();
        StandardJavaFileManager files = compiler.getStandardFileManager(null, null, null);
        JavacTask task = (JavacTask) compiler.getTask(null, files, null, null, null, files.getJavaFileObjects(file));
        CompilationUnitTree unit = task.parse().iterator().next();
        Rules rules = new Rules(unit, Trees.instance(task));
        rules.scan(unit, null);
        check.due("some twelve classes", rules.classes <= 12, true);
        check.due("one import alone", unit.getImports().toString().trim().equals("import java.util.Arrays;"), true);
        check.due("signs 1 to 127 alone", java.nio.file.Files.readString(file.toPath()).chars().allMatch(c -> c < 128), true);
        for (String called : rules.called) {
            check.due(called + " is of this file or of the library", rules.declared.contains(called) || LIBRARY.contains(called), true);
        }
    }

    /** Looks for what the rules leave out. */
    private static final class Rules extends TreeScanner<Void, Void> {
        final CompilationUnitTree unit;
        final Trees trees;
        final Set<String> declared = new HashSet<>();
        final Set<String> called = new TreeSet<>();
        int classes;

        Rules(CompilationUnitTree unit, Trees trees) {
            this.unit = unit;
            this.trees = trees;
        }

        private long line(Tree tree, boolean end) {
            long at = end ? trees.getSourcePositions().getEndPosition(unit, tree)
                : trees.getSourcePositions().getStartPosition(unit, tree);
            return unit.getLineMap().getLineNumber(at);
        }

        private Void refused(Tree tree, String what) {
            check.due(what + " in line " + line(tree, false), 1, 0);
            return null;
        }

        @Override public Void visitClass(ClassTree tree, Void none) {
            classes++;
            Set<javax.lang.model.element.Modifier> flags = tree.getModifiers().getFlags();
            if (classes > 1) {
                check.due(tree.getSimpleName() + " is static", flags.contains(javax.lang.model.element.Modifier.STATIC), true);
            }
            int fields = 0;
            for (Tree member : tree.getMembers()) {
                if (member instanceof VariableTree) {
                    Set<javax.lang.model.element.Modifier> own = ((VariableTree) member).getModifiers().getFlags();
                    boolean fixed = own.contains(javax.lang.model.element.Modifier.STATIC);
                    check.due("static is final: " + member, !fixed || own.contains(javax.lang.model.element.Modifier.FINAL), true);
                    fields += fixed ? 0 : 1;
                }
                if (member.getKind() == Tree.Kind.BLOCK) {
                    refused(member, "an initialiser block");
                }
            }
            check.due(tree.getSimpleName() + " has some twenty fields", fields <= 20, true);
            return super.visitClass(tree, none);
        }

        @Override public Void visitMethod(MethodTree tree, Void none) {
            String name = tree.getName().toString();
            declared.add(name);
            check.due(name + " has seven parameters at most", tree.getParameters().size() <= 7, true);
            check.due(name + " is short", line(tree, true) - line(tree, false) < 60, true);
            boolean open = tree.getModifiers().getFlags().contains(javax.lang.model.element.Modifier.PUBLIC);
            check.due(name + " bears a name of its own", open || !FACE.contains(" " + name + "("), true);
            return super.visitMethod(tree, none);
        }

        @Override public Void visitMethodInvocation(MethodInvocationTree tree, Void none) {
            Tree select = tree.getMethodSelect();
            if (select instanceof MemberSelectTree) {
                called.add(((MemberSelectTree) select).getIdentifier().toString());
            } else if (select instanceof IdentifierTree) {
                called.add(((IdentifierTree) select).getName().toString());
            }
            return super.visitMethodInvocation(tree, none);
        }

        @Override public Void visitBinary(BinaryTree tree, Void none) {
            for (Tree side : new Tree[] {tree.getLeftOperand(), tree.getRightOperand()}) {
                if (side instanceof LiteralTree && ((LiteralTree) side).getValue() instanceof String) {
                    refused(tree, "a text joined by +");
                }
            }
            return super.visitBinary(tree, none);
        }

        @Override public Void visitNewClass(NewClassTree tree, Void none) {
            return tree.getClassBody() != null ? refused(tree, "an anonymous class") : super.visitNewClass(tree, none);
        }

        @Override public Void visitThrow(ThrowTree tree, Void none) {
            return refused(tree, "throw");
        }

        @Override public Void visitTry(TryTree tree, Void none) {
            return refused(tree, "try");
        }

        @Override public Void visitSynchronized(SynchronizedTree tree, Void none) {
            return refused(tree, "synchronized");
        }

        @Override public Void visitAssert(AssertTree tree, Void none) {
            return refused(tree, "assert");
        }

        @Override public Void visitLambdaExpression(LambdaExpressionTree tree, Void none) {
            return refused(tree, "a lambda");
        }

        @Override public Void visitMemberReference(MemberReferenceTree tree, Void none) {
            return refused(tree, "a method reference");
        }
    }
}
