import com.sun.source.tree.AssertTree;
import com.sun.source.tree.BlockTree;
import com.sun.source.tree.ClassTree;
import com.sun.source.tree.CompilationUnitTree;
import com.sun.source.tree.ForLoopTree;
import com.sun.source.tree.ImportTree;
import com.sun.source.tree.LambdaExpressionTree;
import com.sun.source.tree.MemberReferenceTree;
import com.sun.source.tree.MethodInvocationTree;
import com.sun.source.tree.MethodTree;
import com.sun.source.tree.NewArrayTree;
import com.sun.source.tree.NewClassTree;
import com.sun.source.tree.SynchronizedTree;
import com.sun.source.tree.ThrowTree;
import com.sun.source.tree.Tree;
import com.sun.source.tree.TryTree;
import com.sun.source.tree.VariableTree;
import com.sun.source.tree.WhileLoopTree;
import com.sun.source.util.JavacTask;
import com.sun.source.util.TreePathScanner;
import com.sun.source.util.Trees;
import java.io.File;
import java.io.IOException;
import java.util.HashMap;
import java.util.HashSet;
import java.util.LinkedHashSet;
import java.util.List;
import java.util.Map;
import java.util.Set;
import javax.lang.model.element.Element;
import javax.lang.model.element.ElementKind;
import javax.lang.model.element.ExecutableElement;
import javax.lang.model.element.Modifier;
import javax.lang.model.element.VariableElement;
import javax.lang.model.type.ArrayType;
import javax.lang.model.type.TypeKind;
import javax.lang.model.type.TypeMirror;
import javax.tools.JavaCompiler;
import javax.tools.StandardJavaFileManager;
import javax.tools.ToolProvider;

// The source keeps to the rules of LANGUAGE.md that can be read off its tree. Rules 7 and 9 are left to
// the reader. Where a rule allows more than the class has use for (lists, texts), this test is stricter.
public final class OrderedDeskLanguageTest {
    private static final File SOURCE = new File("src/main/java/OrderedDesk.java");
    private static final Set<String> NUMBER_FUNCTIONS = Set.of("java.lang.Math", "java.lang.Integer", "java.lang.Long");
    private static final Set<TypeKind> WHOLE_NUMBERS = Set.of(TypeKind.INT, TypeKind.LONG);
    private static final Set<String> METHODS_OF_ALL_OBJECTS = Set.of("equals", "hashCode", "toString");
    private static final int MOST_PARAMETERS = 7;
    private static final int MOST_LINES = 60;
    private static final int MOST_CALLS_DEEP = 8;
    private static final int MOST_CLASSES = 12;
    private static final int MOST_FIELDS = 20;

    private static int wrong = 0;

    public static void main(String[] args) throws IOException {
        JavaCompiler compiler = ToolProvider.getSystemJavaCompiler();
        try (StandardJavaFileManager files = compiler.getStandardFileManager(null, null, null)) {
            JavacTask task = (JavacTask) compiler.getTask(null, files, null, List.of("--release", "17", "-Xlint:all"),
                null, files.getJavaFileObjects(SOURCE));
            Iterable<? extends CompilationUnitTree> units = task.parse();
            task.analyze();
            Reader reader = new Reader(Trees.instance(task));
            for (CompilationUnitTree unit : units) {
                check(unit.getPackageName() == null, 1, "a package line");
                reader.scan(unit, null);
            }
            reader.checkWhole();
        }
        System.out.println(wrong == 0 ? "the source keeps to the rules" : wrong + " faults of the source");
        if (wrong != 0) {
            System.exit(1);
        }
    }

    private static void check(boolean holds, int rule, String fault) {
        if (!holds) {
            wrong++;
            System.out.println("rule " + rule + ": " + fault);
        }
    }

    private static final class Reader extends TreePathScanner<Void, Void> {
        private final Trees trees;
        private final Map<Element, Set<Element>> callsOf = new HashMap<>();
        private final Set<Element> open = new HashSet<>();
        private Element method = null;
        private int classes = 0;
        private int loops = 0;

        Reader(Trees trees) {
            this.trees = trees;
        }

        void checkWhole() {
            check(classes > 0 && classes <= MOST_CLASSES, 11, classes + " classes");
            for (Element begun : callsOf.keySet()) {
                check(depth(begun) <= MOST_CALLS_DEEP, 11, begun + " calls too deep");
            }
        }

        /** How many methods stand open at most, with this one; no recursion is in use, so none is let in. */
        private int depth(Element begun) {
            if (!open.add(begun)) {
                check(false, 8, begun + " comes to call itself");
                return 0;
            }
            int deepest = 0;
            for (Element called : callsOf.getOrDefault(begun, Set.of())) {
                deepest = Math.max(deepest, depth(called));
            }
            open.remove(begun);
            return deepest + 1;
        }

        private Element element() {
            return trees.getElement(getCurrentPath());
        }

        private long line(Tree tree, boolean last) {
            CompilationUnitTree unit = getCurrentPath().getCompilationUnit();
            var places = trees.getSourcePositions();
            long place = last ? places.getEndPosition(unit, tree) : places.getStartPosition(unit, tree);
            return unit.getLineMap().getLineNumber(place);
        }

        private void refuse(int rule, String what, Tree tree) {
            check(false, rule, what + " in line " + line(tree, false));
        }

        private static boolean isOwn(Element element) {
            for (Element at = element; at != null; at = at.getEnclosingElement()) {
                if (at.getKind() == ElementKind.CLASS && at.getSimpleName().contentEquals("OrderedDesk")) {
                    return true;
                }
            }
            return false;
        }

        @Override
        public Void visitImport(ImportTree tree, Void none) {
            refuse(4, "an import", tree);
            return super.visitImport(tree, none);
        }

        @Override
        public Void visitClass(ClassTree tree, Void none) {
            classes++;
            Element self = element();
            boolean inside = self.getEnclosingElement().getKind() != ElementKind.PACKAGE;
            check(method == null, 2, "a class in a method: " + self);
            check(!inside || self.getModifiers().contains(Modifier.STATIC), 2, self + " is not static");
            int fields = 0;
            for (Tree member : tree.getMembers()) {
                boolean isConstant = member instanceof VariableTree field
                    && field.getModifiers().getFlags().contains(Modifier.STATIC);
                fields += member instanceof VariableTree && !isConstant ? 1 : 0;
                check(!(member instanceof BlockTree), 5, "a block of its own in " + self);
            }
            check(fields <= MOST_FIELDS, 11, self + " has " + fields + " fields");
            return super.visitClass(tree, none);
        }

        @Override
        public Void visitMethod(MethodTree tree, Void none) {
            method = element();
            callsOf.computeIfAbsent(method, made -> new LinkedHashSet<>());
            check(tree.getParameters().size() <= MOST_PARAMETERS, 11, method + " takes too many parameters");
            check(line(tree, true) - line(tree, false) < MOST_LINES, 11, method + " is too long");
            check(!METHODS_OF_ALL_OBJECTS.contains(tree.getName().toString()), 6, method + " of an own object");
            check(tree.getThrows().isEmpty(), 6, method + " says that it throws");
            super.visitMethod(tree, none);
            method = null;
            return null;
        }

        @Override
        public Void visitVariable(VariableTree tree, Void none) {
            VariableElement variable = (VariableElement) element();
            check(isAllowed(variable.asType()), 3, variable + " is of type " + variable.asType());
            if (variable.getModifiers().contains(Modifier.STATIC)) {
                check(variable.getConstantValue() != null, 5, variable + " is static, but no constant");
            }
            return super.visitVariable(tree, none);
        }

        private static boolean isAllowed(TypeMirror type) {
            if (type.getKind() == TypeKind.ARRAY) {
                return ((ArrayType) type).getComponentType().getKind().isPrimitive();
            }
            return type.getKind().isPrimitive() || type.toString().startsWith("OrderedDesk.");
        }

        @Override
        public Void visitMethodInvocation(MethodInvocationTree tree, Void none) {
            Element called = element();
            if (isOwn(called)) {
                callsOf.computeIfAbsent(method, made -> new LinkedHashSet<>()).add(called);
            } else if (!isSuper(called)) {
                checkLibrary(called, tree);
            }
            return super.visitMethodInvocation(tree, none);
        }

        /** The call of Object's constructor, which the compiler writes. */
        private static boolean isSuper(Element called) {
            return called.getKind() == ElementKind.CONSTRUCTOR;
        }

        private void checkLibrary(Element called, Tree tree) {
            boolean listed = NUMBER_FUNCTIONS.contains(called.getEnclosingElement().toString())
                && called.getModifiers().contains(Modifier.STATIC)
                && !called.getSimpleName().toString().endsWith("Exact")
                && isOverNumbers((ExecutableElement) called);
            if (!listed) {
                refuse(4, "a call of " + called, tree);
            }
        }

        private static boolean isOverNumbers(ExecutableElement called) {
            boolean all = WHOLE_NUMBERS.contains(called.getReturnType().getKind());
            for (VariableElement parameter : called.getParameters()) {
                all &= WHOLE_NUMBERS.contains(parameter.asType().getKind());
            }
            return all;
        }

        @Override
        public Void visitNewClass(NewClassTree tree, Void none) {
            Element made = element();
            check(isOwn(made) && tree.getClassBody() == null, 4, "a new " + made);
            check(loops == 0, 12, "a new object in a loop, line " + line(tree, false));
            callsOf.computeIfAbsent(method, begun -> new LinkedHashSet<>()).add(made);
            return super.visitNewClass(tree, none);
        }

        @Override
        public Void visitNewArray(NewArrayTree tree, Void none) {
            check(method == null, 12, "a new array in a method, line " + line(tree, false));
            return super.visitNewArray(tree, none);
        }

        @Override
        public Void visitForLoop(ForLoopTree tree, Void none) {
            loops++;
            super.visitForLoop(tree, none);
            loops--;
            return null;
        }

        @Override
        public Void visitWhileLoop(WhileLoopTree tree, Void none) {
            loops++;
            super.visitWhileLoop(tree, none);
            loops--;
            return null;
        }

        @Override
        public Void visitLambdaExpression(LambdaExpressionTree tree, Void none) {
            refuse(2, "a lambda", tree);
            return super.visitLambdaExpression(tree, none);
        }

        @Override
        public Void visitMemberReference(MemberReferenceTree tree, Void none) {
            refuse(2, "a method reference", tree);
            return super.visitMemberReference(tree, none);
        }

        @Override
        public Void visitThrow(ThrowTree tree, Void none) {
            refuse(6, "throw", tree);
            return super.visitThrow(tree, none);
        }

        @Override
        public Void visitTry(TryTree tree, Void none) {
            refuse(6, "try", tree);
            return super.visitTry(tree, none);
        }

        @Override
        public Void visitSynchronized(SynchronizedTree tree, Void none) {
            refuse(6, "synchronized", tree);
            return super.visitSynchronized(tree, none);
        }

        @Override
        public Void visitAssert(AssertTree tree, Void none) {
            refuse(6, "assert", tree);
            return super.visitAssert(tree, none);
        }
    }
}
