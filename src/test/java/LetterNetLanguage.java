import com.sun.source.tree.AssertTree;
import com.sun.source.tree.BinaryTree;
import com.sun.source.tree.BlockTree;
import com.sun.source.tree.ClassTree;
import com.sun.source.tree.CompilationUnitTree;
import com.sun.source.tree.CompoundAssignmentTree;
import com.sun.source.tree.ImportTree;
import com.sun.source.tree.LambdaExpressionTree;
import com.sun.source.tree.MemberReferenceTree;
import com.sun.source.tree.MethodInvocationTree;
import com.sun.source.tree.MethodTree;
import com.sun.source.tree.NewArrayTree;
import com.sun.source.tree.NewClassTree;
import com.sun.source.tree.SynchronizedTree;
import com.sun.source.tree.ThrowTree;
import com.sun.source.tree.Tree;
import com.sun.source.tree.TryTree;
import com.sun.source.tree.VariableTree;
import com.sun.source.util.JavacTask;
import com.sun.source.util.TreePathScanner;
import com.sun.source.util.Trees;
import java.io.IOException;
import java.nio.file.Path;
import java.util.HashMap;
import java.util.HashSet;
import java.util.List;
import java.util.Map;
import java.util.Set;
import javax.lang.model.element.Element;
import javax.lang.model.element.ElementKind;
import javax.lang.model.element.Modifier;
import javax.lang.model.element.TypeElement;
import javax.tools.JavaCompiler;
import javax.tools.StandardJavaFileManager;
import javax.tools.ToolProvider;

/**
 * The source keeps to those rules of LANGUAGE.md that can be seen in it without running it. Where
 * the class needs less than a rule allows, the test asks for the less: no exceptions, no recursion,
 * no object made by a call.
 */
public final class LetterNetLanguage {
    private static final String SOURCE = "src/main/java/LetterNet.java";
    private static final Set<String> IMPORTS = Set.of("java.util.Arrays", "java.util.ArrayList",
            "java.util.List", "java.util.Iterator");
    private static final Set<String> LIBRARY = Set.of("java.lang.String.length",
            "java.lang.String.charAt", "java.lang.Integer.bitCount", "java.lang.Math.min",
            "java.lang.Math.max", "java.util.Arrays.fill");
    private static final Set<String> CONSTANTS = Set.of("int", "long", "boolean", "char",
            "java.lang.String", "int[]", "long[]", "char[]", "byte[]");
    private static final int MOST_PARAMETERS = 7, MOST_LINES = 60, MOST_DEEP = 8;
    private static final int MOST_CLASSES = 12, MOST_FIELDS = 20;
    private static int wrong = 0;

    private static void complain(int rule, String what) {
        wrong++;
        System.out.println("rule " + rule + ": " + what);
    }

    private static final class Reader extends TreePathScanner<Void, Void> {
        final Trees trees;
        final CompilationUnitTree unit;
        /** Whom each method calls, by elements. */
        final Map<Element, Set<Element>> calls = new HashMap<>();
        final Map<Element, Integer> depths = new HashMap<>();
        int classes = 0;
        Element method = null;

        Reader(Trees trees, CompilationUnitTree unit) {
            this.trees = trees;
            this.unit = unit;
        }

        private long line(long position) {
            return unit.getLineMap().getLineNumber(position);
        }

        private String place(Tree tree) {
            return " in line " + line(trees.getSourcePositions().getStartPosition(unit, tree));
        }

        private void no(int rule, String what, Tree tree) {
            complain(rule, what + place(tree));
        }

        private boolean isOwn(Element element) {
            Element outer = element;
            while (outer.getEnclosingElement().getKind() != ElementKind.PACKAGE) {
                outer = outer.getEnclosingElement();
            }
            return outer.getSimpleName().contentEquals("LetterNet");
        }

        @Override
        public Void visitClass(ClassTree tree, Void unused) {
            classes++;
            Element element = trees.getElement(getCurrentPath());
            Set<Modifier> modifiers = element.getModifiers();
            boolean inside = element.getEnclosingElement().getKind() != ElementKind.PACKAGE;
            if (inside && (!modifiers.contains(Modifier.STATIC)
                    || modifiers.contains(Modifier.PUBLIC)
                    || modifiers.contains(Modifier.PROTECTED))) {
                no(1, "a class inside that is not static, or shown", tree);
            }
            int fields = 0;
            for (Tree member : tree.getMembers()) {
                if (member instanceof BlockTree) {
                    no(5, "an initialiser block", member);
                }
                if (member instanceof VariableTree field
                        && !field.getModifiers().getFlags().contains(Modifier.STATIC)) {
                    fields++;
                }
            }
            if (fields > MOST_FIELDS) {
                no(11, fields + " fields", tree);
            }
            return super.visitClass(tree, unused);
        }

        @Override
        public Void visitVariable(VariableTree tree, Void unused) {
            Element element = trees.getElement(getCurrentPath());
            Set<Modifier> modifiers = element.getModifiers();
            if (element.getKind() == ElementKind.FIELD && modifiers.contains(Modifier.STATIC)
                    && !(modifiers.contains(Modifier.FINAL)
                    && CONSTANTS.contains(element.asType().toString()))) {
                no(5, "a static field that is no constant", tree);
            }
            return super.visitVariable(tree, unused);
        }

        @Override
        public Void visitMethod(MethodTree tree, Void unused) {
            method = trees.getElement(getCurrentPath());
            calls.put(method, new HashSet<>());
            if (tree.getParameters().size() > MOST_PARAMETERS) {
                no(11, tree.getParameters().size() + " parameters", tree);
            }
            // A constructor that the compiler adds has no place in the source.
            long end = trees.getSourcePositions().getEndPosition(unit, tree);
            long start = trees.getSourcePositions().getStartPosition(unit, tree);
            if (end >= 0 && line(end) - line(start) >= MOST_LINES) {
                no(11, "a method of more than " + MOST_LINES + " lines", tree);
            }
            super.visitMethod(tree, unused);
            method = null;
            return null;
        }

        @Override
        public Void visitMethodInvocation(MethodInvocationTree tree, Void unused) {
            Element called = trees.getElement(getCurrentPath());
            if (called.getKind() != ElementKind.CONSTRUCTOR) {
                if (isOwn(called)) {
                    if (method == null) {
                        no(12, "a call in a field's initialiser", tree);
                    } else {
                        calls.get(method).add(called);
                    }
                } else if (!LIBRARY.contains(nameOf(called))) {
                    no(4, nameOf(called), tree);
                }
            }
            return super.visitMethodInvocation(tree, unused);
        }

        private String nameOf(Element called) {
            return ((TypeElement) called.getEnclosingElement()).getQualifiedName() + "."
                    + called.getSimpleName();
        }

        @Override
        public Void visitNewClass(NewClassTree tree, Void unused) {
            lookAtMade(tree);
            return super.visitNewClass(tree, unused);
        }

        @Override
        public Void visitNewArray(NewArrayTree tree, Void unused) {
            lookAtMade(tree);
            return super.visitNewArray(tree, unused);
        }

        private void lookAtMade(Tree tree) {
            if (method != null && method.getKind() != ElementKind.CONSTRUCTOR) {
                no(12, "an object made by a call", tree);
            }
        }

        @Override
        public Void visitBinary(BinaryTree tree, Void unused) {
            lookAtOperator(tree);
            return super.visitBinary(tree, unused);
        }

        @Override
        public Void visitCompoundAssignment(CompoundAssignmentTree tree, Void unused) {
            lookAtOperator(tree);
            return super.visitCompoundAssignment(tree, unused);
        }

        /** Only stretch() divides, behind its test of the divisor. */
        private void lookAtOperator(Tree tree) {
            boolean inStretch = method != null && method.getSimpleName().contentEquals("stretch");
            switch (tree.getKind()) {
                case DIVIDE, REMAINDER, DIVIDE_ASSIGNMENT, REMAINDER_ASSIGNMENT -> {
                    if (!inStretch) {
                        no(7, "a division", tree);
                    }
                }
                default -> { }
            }
        }

        @Override
        public Void visitLambdaExpression(LambdaExpressionTree tree, Void unused) {
            no(2, "a lambda", tree);
            return super.visitLambdaExpression(tree, unused);
        }

        @Override
        public Void visitMemberReference(MemberReferenceTree tree, Void unused) {
            no(2, "a method reference", tree);
            return super.visitMemberReference(tree, unused);
        }

        @Override
        public Void visitThrow(ThrowTree tree, Void unused) {
            no(6, "a throw, though the document names no exception", tree);
            return super.visitThrow(tree, unused);
        }

        @Override
        public Void visitTry(TryTree tree, Void unused) {
            no(6, "a try", tree);
            return super.visitTry(tree, unused);
        }

        @Override
        public Void visitSynchronized(SynchronizedTree tree, Void unused) {
            no(6, "a synchronized", tree);
            return super.visitSynchronized(tree, unused);
        }

        @Override
        public Void visitAssert(AssertTree tree, Void unused) {
            no(6, "an assert", tree);
            return super.visitAssert(tree, unused);
        }

        @Override
        public Void visitImport(ImportTree tree, Void unused) {
            if (!IMPORTS.contains(tree.getQualifiedIdentifier().toString())) {
                no(4, "import of " + tree.getQualifiedIdentifier(), tree);
            }
            return null;
        }

        /** How many calls stand open at once below and with this one. */
        int depthOf(Element called, Set<Element> open) {
            if (!open.add(called)) {
                complain(8, called + " calls itself");
                return 0;
            }
            int deepest = depths.getOrDefault(called, 0);
            if (deepest == 0) {
                for (Element next : calls.getOrDefault(called, Set.of())) {
                    deepest = Math.max(deepest, depthOf(next, open));
                }
                deepest++;
                depths.put(called, deepest);
            }
            open.remove(called);
            return deepest;
        }
    }

    private static void read(Trees trees, CompilationUnitTree unit) {
        Reader reader = new Reader(trees, unit);
        reader.scan(unit, null);
        if (unit.getPackage() != null) {
            complain(1, "a package line");
        }
        if (unit.getTypeDecls().size() != 1) {
            complain(1, "not one class in the file");
        }
        if (reader.classes > MOST_CLASSES) {
            complain(11, reader.classes + " classes");
        }
        if (reader.calls.size() < 26) {
            complain(1, "fewer methods were read than the document's face has");
        }
        for (Element method : reader.calls.keySet()) {
            int depth = reader.depthOf(method, new HashSet<>());
            if (depth > MOST_DEEP) {
                complain(11, method + " goes " + depth + " calls deep");
            }
        }
    }

    public static void main(String[] args) throws IOException {
        JavaCompiler compiler = ToolProvider.getSystemJavaCompiler();
        try (StandardJavaFileManager files = compiler.getStandardFileManager(null, null, null)) {
            JavacTask task = (JavacTask) compiler.getTask(null, files, null,
                    List.of("--release", "17", "-proc:none"), null,
                    files.getJavaFileObjects(Path.of(args.length > 0 ? args[0] : SOURCE)));
            Trees trees = Trees.instance(task);
            Iterable<? extends CompilationUnitTree> units = task.parse();
            task.analyze();
            for (CompilationUnitTree unit : units) {
                read(trees, unit);
            }
        }
        System.out.println(wrong == 0 ? "the source keeps to the rules" : wrong + " faults");
        if (wrong != 0) {
            System.exit(1);
        }
    }
}
