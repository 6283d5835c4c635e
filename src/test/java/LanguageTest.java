import com.sun.source.tree.AssertTree;
import com.sun.source.tree.BinaryTree;
import com.sun.source.tree.ClassTree;
import com.sun.source.tree.CompilationUnitTree;
import com.sun.source.tree.CompoundAssignmentTree;
import com.sun.source.tree.DoWhileLoopTree;
import com.sun.source.tree.ForLoopTree;
import com.sun.source.tree.ImportTree;
import com.sun.source.tree.LambdaExpressionTree;
import com.sun.source.tree.LiteralTree;
import com.sun.source.tree.MemberReferenceTree;
import com.sun.source.tree.MethodInvocationTree;
import com.sun.source.tree.MethodTree;
import com.sun.source.tree.NewArrayTree;
import com.sun.source.tree.NewClassTree;
import com.sun.source.tree.SynchronizedTree;
import com.sun.source.tree.ThrowTree;
import com.sun.source.tree.Tree;
import com.sun.source.tree.TryTree;
import com.sun.source.tree.TypeCastTree;
import com.sun.source.tree.VariableTree;
import com.sun.source.tree.WhileLoopTree;
import com.sun.source.util.JavacTask;
import com.sun.source.util.SourcePositions;
import com.sun.source.util.TreePath;
import com.sun.source.util.TreePathScanner;
import com.sun.source.util.Trees;
import java.nio.file.Path;
import java.util.HashMap;
import java.util.List;
import java.util.Map;
import java.util.Set;
import java.util.TreeMap;
import java.util.TreeSet;
import javax.lang.model.element.Element;
import javax.lang.model.element.Modifier;
import javax.lang.model.element.TypeElement;
import javax.lang.model.type.TypeKind;
import javax.tools.JavaCompiler;
import javax.tools.StandardJavaFileManager;
import javax.tools.ToolProvider;

/** The program keeps to ../shared/LANGUAGE.md, as far as its text shows it; it uses less than that allows. */
public final class LanguageTest {
    private static final Path SOURCE = Path.of("src", "main", "java", "AvalancheGallery.java");
    private static final Set<String> LIBRARY = Set.of("java.lang.String.length", "java.lang.String.charAt",
            "java.lang.StringBuilder.append", "java.lang.StringBuilder.charAt", "java.lang.StringBuilder.setLength",
            "java.lang.StringBuilder.length", "java.lang.Math.max", "java.lang.Math.min",
            "java.lang.Integer.bitCount", "java.lang.System.arraycopy", "java.lang.Object.<init>",
            "java.lang.Enum.<init>");
    private static final Set<String> EXCEPTIONS = Set.of("IllegalStateException", "IllegalArgumentException",
            "IndexOutOfBoundsException", "ArithmeticException", "UnsupportedOperationException",
            "NoSuchElementException", "RuntimeException");
    // The one recursion: it carries its depth.
    private static final String RECURSION = "Sand.slopeFrom";

    private final Set<String> faults = new TreeSet<>();
    private final Map<String, Set<String>> callsOf = new TreeMap<>();
    private final Set<String> publicNames = new TreeSet<>();
    private final Set<String> otherNames = new TreeSet<>();
    private int classes;

    public static void main(String[] args) throws Exception {
        LanguageTest test = new LanguageTest();
        test.read();
        test.checkNames();
        test.checkDepth();
        Checks.due("classes", true, () -> test.classes > 1 && test.classes <= 12);
        Checks.due("faults", "[]", () -> test.faults);
        Checks.finish("LanguageTest");
    }

    private void read() throws Exception {
        JavaCompiler compiler = ToolProvider.getSystemJavaCompiler();
        try (StandardJavaFileManager files = compiler.getStandardFileManager(null, null, null)) {
            JavacTask task = (JavacTask) compiler.getTask(null, files, null, List.of("-proc:none"), null,
                    files.getJavaFileObjects(SOURCE));
            Iterable<? extends CompilationUnitTree> units = task.parse();
            task.analyze();
            for (CompilationUnitTree unit : units) {
                Checks.due("types", 1, () -> unit.getTypeDecls().size());
                new Reader(unit, Trees.instance(task)).scan(unit, null);
            }
        }
    }

    private void checkNames() {
        for (String name : otherNames) {
            Checks.due("no other method is named " + name, false, () -> publicNames.contains(name));
        }
    }

    private void checkDepth() {
        Map<String, Integer> depths = new HashMap<>();
        for (String method : callsOf.keySet()) {
            int depth = depthOf(method, depths, new TreeSet<>());
            Checks.due(method + " goes " + depth + " deep", true, () -> depth <= 8);
        }
    }

    private int depthOf(String method, Map<String, Integer> depths, Set<String> open) {
        if (depths.containsKey(method)) {
            return depths.get(method);
        }
        if (!open.add(method)) {
            faults.add("recursion by " + method);
            return 0;
        }
        int deepest = 0;
        for (String called : callsOf.getOrDefault(method, Set.of())) {
            if (!called.equals(method) || !method.equals(RECURSION)) {
                deepest = Math.max(deepest, depthOf(called, depths, open));
            }
        }
        open.remove(method);
        depths.put(method, deepest + 1);
        return deepest + 1;
    }

    private final class Reader extends TreePathScanner<Void, Void> {
        private final CompilationUnitTree unit;
        private final Trees trees;
        private final SourcePositions positions;
        private String method = "";

        Reader(CompilationUnitTree unit, Trees trees) {
            this.unit = unit;
            this.trees = trees;
            this.positions = trees.getSourcePositions();
        }

        private long line(long position) {
            return unit.getLineMap().getLineNumber(position);
        }

        private void fault(String what, Tree tree) {
            faults.add("line " + line(positions.getStartPosition(unit, tree)) + ": " + what);
        }

        private boolean inThrow() {
            return getCurrentPath().getParentPath().getLeaf() instanceof ThrowTree;
        }

        private boolean isText(Tree tree) {
            return "java.lang.String".equals(String.valueOf(trees.getTypeMirror(new TreePath(getCurrentPath(), tree))));
        }

        @Override
        public Void visitImport(ImportTree tree, Void none) {
            if (!tree.getQualifiedIdentifier().toString().equals("java.util.NoSuchElementException")) {
                fault("import", tree);
            }
            return super.visitImport(tree, none);
        }

        @Override
        public Void visitClass(ClassTree tree, Void none) {
            classes++;
            int fields = 0;
            for (Tree member : tree.getMembers()) {
                if (member instanceof VariableTree field) {
                    Set<Modifier> modifiers = field.getModifiers().getFlags();
                    boolean fixed = modifiers.contains(Modifier.STATIC);
                    boolean constant = tree.getKind() == Tree.Kind.ENUM || fixed;
                    fields += constant ? 0 : 1;
                    if (fixed && !modifiers.contains(Modifier.FINAL)) {
                        fault("a static field that is not final", member);
                    }
                }
                if (member.getKind() == Tree.Kind.BLOCK) {
                    fault("initialiser block", member);
                }
            }
            if (fields > 20) {
                fault("too many fields", tree);
            }
            return super.visitClass(tree, none);
        }

        @Override
        public Void visitMethod(MethodTree tree, Void none) {
            Element element = trees.getElement(getCurrentPath());
            method = element.getEnclosingElement().getSimpleName() + "." + tree.getName();
            callsOf.put(method, new TreeSet<>());
            boolean isPublic = tree.getModifiers().getFlags().contains(Modifier.PUBLIC);
            (isPublic ? publicNames : otherNames).add(isPublic && tree.getReturnType() == null
                    ? "the public constructor" : tree.getName().toString());
            long lines = line(positions.getEndPosition(unit, tree)) - line(positions.getStartPosition(unit, tree)) + 1;
            if (lines > 60) {
                fault("a long method", tree);
            }
            if (tree.getParameters().size() > 7) {
                fault("too many parameters", tree);
            }
            super.visitMethod(tree, none);
            method = "";
            return null;
        }

        @Override
        public Void visitMethodInvocation(MethodInvocationTree tree, Void none) {
            Element called = trees.getElement(getCurrentPath());
            String owner = ((TypeElement) called.getEnclosingElement()).getQualifiedName().toString()
                    .replace("AbstractStringBuilder", "StringBuilder");
            if (owner.startsWith("AvalancheGallery")) {
                if (!called.getSimpleName().contentEquals("values")) {
                    callsOf.computeIfAbsent(method, name -> new TreeSet<>())
                            .add(called.getEnclosingElement().getSimpleName() + "." + called.getSimpleName());
                }
            } else if (!LIBRARY.contains(owner + "." + called.getSimpleName())) {
                fault("calls " + owner + "." + called, tree);
            }
            return super.visitMethodInvocation(tree, none);
        }

        @Override
        public Void visitNewClass(NewClassTree tree, Void none) {
            boolean made = method.isEmpty() || method.endsWith(".<init>");
            if (inThrow()) {
                boolean written = tree.getArguments().stream().allMatch(text -> text instanceof LiteralTree);
                if (!EXCEPTIONS.contains(tree.getIdentifier().toString()) || !written || made) {
                    fault("throws something else", tree);
                }
            } else if (!made || tree.getClassBody() != null) {
                fault("makes an object in a call", tree);
            }
            return super.visitNewClass(tree, none);
        }

        @Override
        public Void visitNewArray(NewArrayTree tree, Void none) {
            if (!method.isEmpty()) {
                fault("makes an array in a call", tree);
            }
            return super.visitNewArray(tree, none);
        }

        @Override
        public Void visitThrow(ThrowTree tree, Void none) {
            if (!(tree.getExpression() instanceof NewClassTree)) {
                fault("throws what it did not make", tree);
            }
            return super.visitThrow(tree, none);
        }

        @Override
        public Void visitBinary(BinaryTree tree, Void none) {
            if (tree.getKind() == Tree.Kind.PLUS && isText(tree.getLeftOperand()) | isText(tree.getRightOperand())) {
                fault("joins texts by +", tree);
            }
            return super.visitBinary(tree, none);
        }

        @Override
        public Void visitCompoundAssignment(CompoundAssignmentTree tree, Void none) {
            if (isText(tree.getVariable())) {
                fault("joins texts by +=", tree);
            }
            return super.visitCompoundAssignment(tree, none);
        }

        @Override
        public Void visitForLoop(ForLoopTree tree, Void none) {
            if (tree.getCondition() == null || tree.getUpdate().isEmpty()) {
                fault("a loop without an end", tree);
            }
            return super.visitForLoop(tree, none);
        }

        @Override
        public Void visitWhileLoop(WhileLoopTree tree, Void none) {
            fault("while", tree);
            return super.visitWhileLoop(tree, none);
        }

        @Override
        public Void visitDoWhileLoop(DoWhileLoopTree tree, Void none) {
            fault("do", tree);
            return super.visitDoWhileLoop(tree, none);
        }

        @Override
        public Void visitTypeCast(TypeCastTree tree, Void none) {
            TypeKind kind = trees.getTypeMirror(new TreePath(getCurrentPath(), tree.getType())).getKind();
            if (!kind.isPrimitive()) {
                fault("cast", tree);
            }
            return super.visitTypeCast(tree, none);
        }

        @Override
        public Void visitTry(TryTree tree, Void none) {
            fault("try", tree);
            return super.visitTry(tree, none);
        }

        @Override
        public Void visitLambdaExpression(LambdaExpressionTree tree, Void none) {
            fault("lambda", tree);
            return super.visitLambdaExpression(tree, none);
        }

        @Override
        public Void visitMemberReference(MemberReferenceTree tree, Void none) {
            fault("method reference", tree);
            return super.visitMemberReference(tree, none);
        }

        @Override
        public Void visitSynchronized(SynchronizedTree tree, Void none) {
            fault("synchronized", tree);
            return super.visitSynchronized(tree, none);
        }

        @Override
        public Void visitAssert(AssertTree tree, Void none) {
            fault("assert", tree);
            return super.visitAssert(tree, none);
        }
    }
}
