import com.sun.source.tree.AssertTree;
import com.sun.source.tree.BinaryTree;
import com.sun.source.tree.BlockTree;
import com.sun.source.tree.ClassTree;
import com.sun.source.tree.CompilationUnitTree;
import com.sun.source.tree.CompoundAssignmentTree;
import com.sun.source.tree.DoWhileLoopTree;
import com.sun.source.tree.EnhancedForLoopTree;
import com.sun.source.tree.ForLoopTree;
import com.sun.source.tree.LambdaExpressionTree;
import com.sun.source.tree.MemberReferenceTree;
import com.sun.source.tree.MethodInvocationTree;
import com.sun.source.tree.MethodTree;
import com.sun.source.tree.NewArrayTree;
import com.sun.source.tree.NewClassTree;
import com.sun.source.tree.SynchronizedTree;
import com.sun.source.tree.ThrowTree;
import com.sun.source.tree.Tree;
import com.sun.source.tree.TryTree;
import com.sun.source.tree.TypeCastTree;
import com.sun.source.tree.VariableTree;
import com.sun.source.tree.WhileLoopTree;
import com.sun.source.util.JavacTask;
import com.sun.source.util.TreePath;
import com.sun.source.util.TreePathScanner;
import com.sun.source.util.Trees;
import java.io.File;
import java.io.IOException;
import java.util.ArrayList;
import java.util.HashMap;
import java.util.List;
import java.util.Map;
import java.util.Set;
import java.util.TreeSet;
import javax.lang.model.element.Element;
import javax.lang.model.element.ElementKind;
import javax.lang.model.element.ExecutableElement;
import javax.lang.model.element.Modifier;
import javax.lang.model.element.TypeElement;
import javax.tools.JavaCompiler;
import javax.tools.StandardJavaFileManager;
import javax.tools.ToolProvider;

/**
 * What ../shared/LANGUAGE.md asks of the class and its text can show, read from the compiler's own
 * tree of it. Where the class keeps to less than a rule leaves (it throws nothing, has only counted
 * loops and makes objects in constructors alone), the test holds it to that.
 */
public final class CommonBasesLanguage {
    private static final String SOURCE = "src/main/java/CommonBases.java";
    private static final Set<String> LIBRARY = Set.of(
            "java.util.Arrays.fill", "java.lang.System.arraycopy", "java.lang.Math.min",
            "java.lang.Math.floorMod", "java.lang.Integer.bitCount");
    private static final Set<String> TYPES = Set.of("int", "boolean", "int[]", "int[][]");
    private static final Set<String> CONSTANT_TYPES = Set.of("int", "long", "boolean", "char", "java.lang.String");
    private static final int MOST_CLASSES = 12;
    private static final int MOST_FIELDS = 20;
    private static final int MOST_PARAMETERS = 7;
    private static final int MOST_LINES = 60;
    private static final int MOST_DEEP = 8;

    private static int wrong = 0;

    private static void due(int rule, String what, boolean holds) {
        if (!holds) {
            wrong++;
            System.out.println("rule " + rule + ": " + what);
        }
    }

    public static void main(String[] args) throws IOException {
        readSource();
        System.out.println(wrong == 0 ? "the class keeps to the rules" : wrong + " places do not keep to the rules");
        if (wrong != 0) {
            System.exit(1);
        }
    }

    private static void readSource() throws IOException {
        JavaCompiler compiler = ToolProvider.getSystemJavaCompiler();
        try (StandardJavaFileManager files = compiler.getStandardFileManager(null, null, null)) {
            JavacTask task = (JavacTask) compiler.getTask(null, files, null, List.of("--release", "17", "-proc:none"),
                    null, files.getJavaFileObjects(new File(SOURCE)));
            CompilationUnitTree unit = task.parse().iterator().next();
            task.analyze();
            due(1, "a package line", unit.getPackage() == null);
            due(1, "more than one class outside", unit.getTypeDecls().size() == 1);
            Reader reader = new Reader(unit, Trees.instance(task));
            reader.scan(unit, null);
            due(11, reader.classes + " classes", reader.classes <= MOST_CLASSES);
            reader.calls.checkDepth();
        }
    }

    /** Which method calls which, by names that tell them apart. */
    private static final class Calls {
        private final Map<String, Set<String>> called = new HashMap<>();
        private final Set<String> withoutBody = new TreeSet<>();
        private final Map<String, Integer> depths = new HashMap<>();
        private final List<String> open = new ArrayList<>();

        void add(String from, String to) {
            called.computeIfAbsent(from, name -> new TreeSet<>()).add(to);
        }

        void checkDepth() {
            for (String method : new TreeSet<>(called.keySet())) {
                int depth = depthOf(method);
                due(11, method + " goes " + depth + " calls deep", depth <= MOST_DEEP);
            }
        }

        private int depthOf(String method) {
            if (open.contains(method)) {
                due(8, "a recursion: " + open + " calls " + method, false);
                return 0;
            }
            Integer known = depths.get(method);
            if (known != null) {
                return known;
            }
            open.add(method);
            int below = 0;
            for (String next : called.getOrDefault(method, Set.of())) {
                below = Math.max(below, depthOf(next));
            }
            open.remove(open.size() - 1);
            int depth = withoutBody.contains(method) ? below : below + 1;
            depths.put(method, depth);
            return depth;
        }
    }

    private static final class Reader extends TreePathScanner<Void, Void> {
        private final CompilationUnitTree unit;
        private final Trees trees;
        private final Calls calls = new Calls();
        private int classes = 0;

        Reader(CompilationUnitTree unit, Trees trees) {
            this.unit = unit;
            this.trees = trees;
        }

        private Element element() {
            return trees.getElement(getCurrentPath());
        }

        private String type(Tree tree) {
            return String.valueOf(trees.getTypeMirror(new TreePath(getCurrentPath(), tree)));
        }

        private String at(Tree tree) {
            long start = trees.getSourcePositions().getStartPosition(unit, tree);
            return "line " + unit.getLineMap().getLineNumber(start);
        }

        /** The method that this place stands in; null where a field is set where it stands. */
        private ExecutableElement method() {
            for (TreePath path = getCurrentPath(); path != null; path = path.getParentPath()) {
                if (path.getLeaf() instanceof MethodTree) {
                    return (ExecutableElement) trees.getElement(path);
                }
            }
            return null;
        }

        private static String name(ExecutableElement method) {
            return ((TypeElement) method.getEnclosingElement()).getQualifiedName() + "." + method.getSimpleName();
        }

        private void never(int rule, Tree tree, String what) {
            due(rule, at(tree) + ": " + what, false);
        }

        private void inConstructorAlone(Tree tree) {
            ExecutableElement method = method();
            due(12, at(tree) + ": made outside a constructor",
                    method == null || method.getKind() == ElementKind.CONSTRUCTOR);
        }

        @Override
        public Void visitClass(ClassTree tree, Void none) {
            classes++;
            int fields = 0;
            for (Tree member : tree.getMembers()) {
                if (member instanceof VariableTree) {
                    fields += element(member).getModifiers().contains(Modifier.STATIC) ? 0 : 1;
                }
                due(5, at(member) + ": an initialiser block", !(member instanceof BlockTree));
            }
            due(11, tree.getSimpleName() + " has " + fields + " fields", fields <= MOST_FIELDS);
            due(2, at(tree) + ": a class inside a method", method() == null);
            return super.visitClass(tree, none);
        }

        private Element element(Tree tree) {
            return trees.getElement(new TreePath(getCurrentPath(), tree));
        }

        @Override
        public Void visitVariable(VariableTree tree, Void none) {
            Element variable = element();
            String type = variable.asType().toString();
            if (variable.getModifiers().contains(Modifier.STATIC)) {
                due(5, at(tree) + ": a static field that is no constant", CONSTANT_TYPES.contains(type)
                        && variable.getModifiers().contains(Modifier.FINAL));
            } else {
                due(3, at(tree) + ": the type " + type, TYPES.contains(type) || type.matches("CommonBases\\.\\w+(\\[\\])?"));
            }
            return super.visitVariable(tree, none);
        }

        @Override
        public Void visitMethod(MethodTree tree, Void none) {
            int parameters = tree.getParameters().size();
            due(11, tree.getName() + " takes " + parameters + " parameters", parameters <= MOST_PARAMETERS);
            long from = trees.getSourcePositions().getStartPosition(unit, tree);
            long to = trees.getSourcePositions().getEndPosition(unit, tree);
            long lines = unit.getLineMap().getLineNumber(Math.max(from, to)) - unit.getLineMap().getLineNumber(from) + 1;
            due(11, tree.getName() + " has " + lines + " lines", lines <= MOST_LINES);
            noteOverriding();
            return super.visitMethod(tree, none);
        }

        /** A call of an abstract method is a call of each method that stands for it. */
        private void noteOverriding() {
            ExecutableElement method = (ExecutableElement) element();
            if (method.getModifiers().contains(Modifier.ABSTRACT)) {
                calls.withoutBody.add(name(method));
            }
            String above = ((TypeElement) method.getEnclosingElement()).getSuperclass().toString();
            if (above.startsWith("CommonBases.") && method.getKind() == ElementKind.METHOD) {
                calls.add(above + "." + method.getSimpleName(), name(method));
            }
        }

        @Override
        public Void visitMethodInvocation(MethodInvocationTree tree, Void none) {
            ExecutableElement target = (ExecutableElement) element();
            ExecutableElement from = method();
            boolean own = name(target).startsWith("CommonBases.") || target.getKind() == ElementKind.CONSTRUCTOR;
            due(4, at(tree) + ": " + name(target), own || LIBRARY.contains(name(target)));
            due(12, at(tree) + ": a constructor calls a method of its own object", from == null || !own
                    || from.getKind() != ElementKind.CONSTRUCTOR || target.getKind() == ElementKind.CONSTRUCTOR);
            if (from != null) {
                calls.add(name(from), name(target));
            }
            return super.visitMethodInvocation(tree, none);
        }

        @Override
        public Void visitNewClass(NewClassTree tree, Void none) {
            due(2, at(tree) + ": a class without a name", tree.getClassBody() == null);
            due(4, at(tree) + ": makes " + type(tree), type(tree).startsWith("CommonBases."));
            inConstructorAlone(tree);
            if (method() != null) {
                calls.add(name(method()), name((ExecutableElement) element()));
            }
            return super.visitNewClass(tree, none);
        }

        @Override
        public Void visitNewArray(NewArrayTree tree, Void none) {
            inConstructorAlone(tree);
            return super.visitNewArray(tree, none);
        }

        @Override
        public Void visitForLoop(ForLoopTree tree, Void none) {
            due(9, at(tree) + ": a loop without a counter against a bound", tree.getCondition() != null
                    && tree.getInitializer().size() == 1 && tree.getUpdate().size() == 1);
            return super.visitForLoop(tree, none);
        }

        @Override
        public Void visitBinary(BinaryTree tree, Void none) {
            due(10, at(tree) + ": texts joined by +", !type(tree).equals("java.lang.String"));
            return super.visitBinary(tree, none);
        }

        @Override
        public Void visitCompoundAssignment(CompoundAssignmentTree tree, Void none) {
            due(10, at(tree) + ": texts joined by +=", !type(tree).equals("java.lang.String"));
            return super.visitCompoundAssignment(tree, none);
        }

        @Override
        public Void visitWhileLoop(WhileLoopTree tree, Void none) {
            never(9, tree, "a loop without a counter");
            return super.visitWhileLoop(tree, none);
        }

        @Override
        public Void visitDoWhileLoop(DoWhileLoopTree tree, Void none) {
            never(9, tree, "a loop without a counter");
            return super.visitDoWhileLoop(tree, none);
        }

        @Override
        public Void visitEnhancedForLoop(EnhancedForLoopTree tree, Void none) {
            due(12, at(tree) + ": an iterator", type(tree.getExpression()).endsWith("[]"));
            return super.visitEnhancedForLoop(tree, none);
        }

        @Override
        public Void visitLambdaExpression(LambdaExpressionTree tree, Void none) {
            never(2, tree, "a lambda");
            return super.visitLambdaExpression(tree, none);
        }

        @Override
        public Void visitMemberReference(MemberReferenceTree tree, Void none) {
            never(2, tree, "a method reference");
            return super.visitMemberReference(tree, none);
        }

        @Override
        public Void visitThrow(ThrowTree tree, Void none) {
            never(6, tree, "a throw, and the document knows none");
            return super.visitThrow(tree, none);
        }

        @Override
        public Void visitTry(TryTree tree, Void none) {
            never(6, tree, "a try, and nothing is thrown");
            return super.visitTry(tree, none);
        }

        @Override
        public Void visitSynchronized(SynchronizedTree tree, Void none) {
            never(6, tree, "synchronized");
            return super.visitSynchronized(tree, none);
        }

        @Override
        public Void visitAssert(AssertTree tree, Void none) {
            never(6, tree, "assert");
            return super.visitAssert(tree, none);
        }

        @Override
        public Void visitTypeCast(TypeCastTree tree, Void none) {
            never(6, tree, "a cast, for which instanceof with a pattern does");
            return super.visitTypeCast(tree, none);
        }
    }
}
