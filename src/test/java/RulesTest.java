import com.sun.source.tree.AssertTree;
import com.sun.source.tree.BinaryTree;
import com.sun.source.tree.ClassTree;
import com.sun.source.tree.CompilationUnitTree;
import com.sun.source.tree.ImportTree;
import com.sun.source.tree.InstanceOfTree;
import com.sun.source.tree.LambdaExpressionTree;
import com.sun.source.tree.MemberReferenceTree;
import com.sun.source.tree.MethodInvocationTree;
import com.sun.source.tree.MethodTree;
import com.sun.source.tree.NewClassTree;
import com.sun.source.tree.ThrowTree;
import com.sun.source.tree.Tree;
import com.sun.source.tree.TryTree;
import com.sun.source.tree.TypeCastTree;
import com.sun.source.tree.VariableTree;
import com.sun.source.util.JavacTask;
import com.sun.source.util.SourcePositions;
import com.sun.source.util.TreePath;
import com.sun.source.util.TreePathScanner;
import com.sun.source.util.Trees;
import java.io.File;
import java.util.HashMap;
import java.util.HashSet;
import java.util.List;
import java.util.Map;
import java.util.Set;
import javax.lang.model.element.Element;
import javax.lang.model.element.ElementKind;
import javax.lang.model.element.ExecutableElement;
import javax.lang.model.element.Modifier;
import javax.tools.JavaCompiler;
import javax.tools.StandardJavaFileManager;
import javax.tools.ToolProvider;

/** Those rules of LANGUAGE.md that can be seen in the tree of the source. */
public final class RulesTest {
    private static final Due due = new Due("RulesTest");
    /** Of rule 4 only what the class uses now: what comes anew is to be looked up there. */
    private static final Set<String> LIBRARY = Set.of("java.lang.String.length()", "java.lang.String.charAt(int)",
        "java.lang.String.indexOf(int)", "java.lang.Math.abs(int)", "java.lang.Math.abs(long)",
        "java.lang.Math.max(int,int)", "java.lang.Math.min(int,int)", "java.lang.Integer.compare(int,int)",
        "java.lang.Integer.bitCount(int)", "java.lang.Long.compare(long,long)", "java.util.Arrays.fill(int[],int)",
        "java.util.Arrays.copyOf(int[],int)",
        "java.lang.System.arraycopy(java.lang.Object,int,java.lang.Object,int,int)");
    /** Types of static fields by rule 5. */
    private static final Set<String> CONSTANTS = Set.of("int", "long", "boolean", "char", "String", "int[]", "long[]",
        "char[]", "byte[]");
    private static final Map<Element, Set<Element>> calls = new HashMap<>();

    public static void main(String[] args) throws Exception {
        JavaCompiler compiler = ToolProvider.getSystemJavaCompiler();
        StandardJavaFileManager files = compiler.getStandardFileManager(null, null, null);
        JavacTask task = (JavacTask) compiler.getTask(null, files, null, null, null,
            files.getJavaFileObjects(new File("src/main/java/RiverWage.java")));
        CompilationUnitTree unit = task.parse().iterator().next();
        task.analyze();
        due.is("no package", unit.getPackageName() == null, true);
        for (ImportTree line : unit.getImports()) {
            due.is(line.toString().trim(), List.of("java.util.Arrays", "java.util.NoSuchElementException")
                .contains(line.getQualifiedIdentifier().toString()), true);
        }
        new Scanner(Trees.instance(task), unit).scan(unit, null);
        for (Element method : calls.keySet()) {
            int depth = depthOf(method, new HashSet<>());
            due.is(method + " goes at most eight deep, " + depth, depth <= 8, true);
        }
        due.close();
    }

    /** How many calls stand open at once; a recursion is told as a fault, as there is none. */
    private static int depthOf(Element method, Set<Element> open) {
        if (!open.add(method)) {
            due.tell(method + " calls itself");
            return 0;
        }
        int deepest = 0;
        for (Element called : calls.getOrDefault(method, Set.of())) {
            deepest = Math.max(deepest, depthOf(called, open));
        }
        open.remove(method);
        return deepest + 1;
    }

    private static final class Scanner extends TreePathScanner<Void, Void> {
        private final Trees trees;
        private final CompilationUnitTree unit;
        private final SourcePositions positions;
        private int classes = 0;
        private MethodTree method;
        private Element methodElement;

        Scanner(Trees trees, CompilationUnitTree unit) {
            this.trees = trees;
            this.unit = unit;
            positions = trees.getSourcePositions();
        }

        private void never(Tree tree, String what) {
            due.tell(what + " in line " + line(positions.getStartPosition(unit, tree)));
        }

        private long line(long position) {
            return unit.getLineMap().getLineNumber(position);
        }

        @Override
        public Void visitClass(ClassTree tree, Void none) {
            classes++;
            int fields = 0;
            for (Tree member : tree.getMembers()) {
                if (member instanceof VariableTree field) {
                    boolean isStatic = field.getModifiers().getFlags().contains(Modifier.STATIC);
                    fields += isStatic ? 0 : 1;
                    due.is(field.getName() + " is final if static",
                        !isStatic || field.getModifiers().getFlags().contains(Modifier.FINAL), true);
                    due.is(field.getName() + " may be static", !isStatic || CONSTANTS.contains(field.getType().toString()),
                        true);
                }
                due.is("no initialiser block", member.getKind() == Tree.Kind.BLOCK, false);
            }
            due.is(tree.getSimpleName() + " has at most twenty fields", fields <= 20, true);
            due.is("at most twelve classes", classes <= 12, true);
            return super.visitClass(tree, none);
        }

        @Override
        public Void visitMethod(MethodTree tree, Void none) {
            method = tree;
            methodElement = trees.getElement(getCurrentPath());
            calls.putIfAbsent(methodElement, new HashSet<>());
            long lines = line(positions.getEndPosition(unit, tree)) - line(positions.getStartPosition(unit, tree)) + 1;
            due.is(tree.getName() + " has at most sixty lines", lines <= 60, true);
            due.is(tree.getName() + " takes at most seven parameters", tree.getParameters().size() <= 7, true);
            return super.visitMethod(tree, none);
        }

        @Override
        public Void visitMethodInvocation(MethodInvocationTree tree, Void none) {
            Element called = trees.getElement(getCurrentPath());
            if (called instanceof ExecutableElement) {
                String owner = called.getEnclosingElement().toString();
                boolean isOwn = owner.startsWith("RiverWage");
                boolean isConstructor = called.getKind() == ElementKind.CONSTRUCTOR;
                due.is(owner + "." + called + " is in the library or its own",
                    isOwn || isConstructor || LIBRARY.contains(owner + "." + called), true);
                if (isOwn && !isConstructor) {
                    calls.get(methodElement).add(called);
                }
            }
            return super.visitMethodInvocation(tree, none);
        }

        @Override
        public Void visitNewClass(NewClassTree tree, Void none) {
            String made = tree.getIdentifier().toString();
            due.is(made + " is a class of its own", made.equals("NoSuchElementException")
                || trees.getElement(new TreePath(getCurrentPath(), tree.getIdentifier())).toString().startsWith("RiverWage."),
                true);
            due.is(made + " has no body", tree.getClassBody() == null, true);
            return super.visitNewClass(tree, none);
        }

        @Override
        public Void visitVariable(VariableTree tree, Void none) {
            due.is(tree.getName() + " has one dimension", tree.getType() != null && tree.getType().toString().endsWith("[][]"),
                false);
            return super.visitVariable(tree, none);
        }

        @Override
        public Void visitBinary(BinaryTree tree, Void none) {
            boolean isText = trees.getTypeMirror(getCurrentPath()).toString().equals("java.lang.String");
            due.is("texts are not joined by +", isText, false);
            return super.visitBinary(tree, none);
        }

        @Override
        public Void visitThrow(ThrowTree tree, Void none) {
            due.is("throw", tree.getExpression().toString().equals("new NoSuchElementException()"), true);
            due.is("throws are not in constructors", method.getName().contentEquals("<init>"), false);
            due.is(method.getName() + " tells what it throws", method.getThrows().size(), 1);
            return super.visitThrow(tree, none);
        }

        @Override
        public Void visitTry(TryTree tree, Void none) {
            never(tree, "try");
            return super.visitTry(tree, none);
        }

        @Override
        public Void visitLambdaExpression(LambdaExpressionTree tree, Void none) {
            never(tree, "a lambda");
            return super.visitLambdaExpression(tree, none);
        }

        @Override
        public Void visitMemberReference(MemberReferenceTree tree, Void none) {
            never(tree, "a method reference");
            return super.visitMemberReference(tree, none);
        }

        @Override
        public Void visitAssert(AssertTree tree, Void none) {
            never(tree, "assert");
            return super.visitAssert(tree, none);
        }

        @Override
        public Void visitInstanceOf(InstanceOfTree tree, Void none) {
            never(tree, "instanceof");
            return super.visitInstanceOf(tree, none);
        }

        @Override
        public Void visitTypeCast(TypeCastTree tree, Void none) {
            due.is("casts are among numbers", tree.getType().getKind() == Tree.Kind.PRIMITIVE_TYPE, true);
            return super.visitTypeCast(tree, none);
        }
    }
}
