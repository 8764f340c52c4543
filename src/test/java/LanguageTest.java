import com.sun.source.tree.AssertTree;
import com.sun.source.tree.BinaryTree;
import com.sun.source.tree.ClassTree;
import com.sun.source.tree.CompilationUnitTree;
import com.sun.source.tree.CompoundAssignmentTree;
import com.sun.source.tree.DoWhileLoopTree;
import com.sun.source.tree.EnhancedForLoopTree;
import com.sun.source.tree.ExpressionTree;
import com.sun.source.tree.ForLoopTree;
import com.sun.source.tree.ImportTree;
import com.sun.source.tree.InstanceOfTree;
import com.sun.source.tree.LambdaExpressionTree;
import com.sun.source.tree.MemberReferenceTree;
import com.sun.source.tree.MethodInvocationTree;
import com.sun.source.tree.MethodTree;
import com.sun.source.tree.NewArrayTree;
import com.sun.source.tree.NewClassTree;
import com.sun.source.tree.SynchronizedTree;
import com.sun.source.tree.ThrowTree;
import com.sun.source.tree.Tree;
import com.sun.source.tree.TryTree;
import com.sun.source.tree.TypeCastTree;
import com.sun.source.tree.VariableTree;
import com.sun.source.tree.WhileLoopTree;
import com.sun.source.util.JavacTask;
import com.sun.source.util.SourcePositions;
import com.sun.source.util.TreePathScanner;
import com.sun.source.util.Trees;
import java.io.IOException;
import java.nio.file.Files;
import java.nio.file.Path;
import java.util.List;
import java.util.Map;
import java.util.Set;
import java.util.TreeMap;
import java.util.TreeSet;
import javax.lang.model.element.Element;
import javax.lang.model.element.ElementKind;
import javax.lang.model.element.Modifier;
import javax.lang.model.element.VariableElement;
import javax.lang.model.type.TypeKind;
import javax.lang.model.type.TypeMirror;
import javax.tools.JavaCompiler;
import javax.tools.StandardJavaFileManager;
import javax.tools.ToolProvider;

/** The rules of LANGUAGE.md, read from the tree that the compiler makes of the class; stricter where the class is. */
public final class LanguageTest {
    private static final Due due = new Due("LanguageTest");

    /** What of the library the class uses; LANGUAGE.md, rule 4, allows more. */
    private static final Set<String> LIBRARY = Set.of("java.lang.Integer.bitCount", "java.lang.Integer.lowestOneBit",
        "java.lang.Math.max", "java.lang.Math.min", "java.lang.System.arraycopy", "java.util.Arrays.fill");
    /** Divisors that are no constants: each stands behind a test against 0. */
    private static final Set<String> TESTED_DIVISORS = Set.of("lesser", "shared");
    /** All others use again what the constructors made. */
    private static final Set<String> MAKERS = Set.of("LanternSteps.image");
    private static final Set<String> RECURSIVE = Set.of("LanternSteps.Odds.casesOfEnough");

    private static final int MOST_CLASSES = 12;
    private static final int MOST_FIELDS = 20;
    private static final int MOST_PARAMETERS = 7;
    private static final int MOST_LINES = 60;
    private static final int DEEPEST = 8;

    public static void main(String[] args) throws IOException {
        Path path = Path.of(System.getProperty("project", "."), "src/main/java/LanternSteps.java");
        String text = Files.readString(path);
        due.holds("plain signs alone", text.chars().allMatch(sign -> sign == '\n' || sign >= 32 && sign < 127));
        JavaCompiler compiler = ToolProvider.getSystemJavaCompiler();
        try (StandardJavaFileManager files = compiler.getStandardFileManager(null, null, null)) {
            JavacTask task = (JavacTask) compiler.getTask(null, files, null, List.of("-proc:none"), null,
                files.getJavaFileObjects(path));
            Iterable<? extends CompilationUnitTree> units = task.parse();
            task.analyze();
            for (CompilationUnitTree unit : units) {
                Reader reader = new Reader(Trees.instance(task), unit);
                reader.scan(unit, null);
                reader.end();
            }
        }
        due.end();
    }

    /** Goes through the tree once; what can only be told of all is told at the end. */
    private static final class Reader extends TreePathScanner<Void, Void> {
        private final Trees trees;
        private final CompilationUnitTree unit;
        private final Map<String, Set<String>> calls = new TreeMap<>();
        private final Set<String> openNames = new TreeSet<>();
        private final Set<String> privateNames = new TreeSet<>();
        private int classes;
        private String method = "";
        private boolean isMaker;

        Reader(Trees trees, CompilationUnitTree unit) {
            this.trees = trees;
            this.unit = unit;
            due.holds("no package line", unit.getPackageName() == null);
        }

        private Element element() {
            return trees.getElement(getCurrentPath());
        }

        private void never(String what, Tree tree) {
            due.holds("no " + what + ": " + tree, false);
        }

        private long lines(Tree tree) {
            SourcePositions positions = trees.getSourcePositions();
            return 1 + unit.getLineMap().getLineNumber(positions.getEndPosition(unit, tree))
                - unit.getLineMap().getLineNumber(positions.getStartPosition(unit, tree));
        }

        @Override
        public Void visitImport(ImportTree tree, Void none) {
            due.holds("imported: " + tree, tree.getQualifiedIdentifier().toString().equals("java.util.Arrays"));
            return super.visitImport(tree, none);
        }

        @Override
        public Void visitClass(ClassTree tree, Void none) {
            classes++;
            String name = element().toString();
            Set<Modifier> modifiers = element().getModifiers();
            due.holds(name + " is final", modifiers.contains(Modifier.FINAL));
            boolean isOuter = name.equals("LanternSteps");
            due.holds(name + " is seen as told", modifiers.contains(isOuter ? Modifier.PUBLIC : Modifier.STATIC)
                && !modifiers.contains(isOuter ? Modifier.STATIC : Modifier.PUBLIC)
                && !modifiers.contains(Modifier.PROTECTED));
            due.holds(name + " is a class in a class", isOuter || element().getEnclosingElement().getKind().isClass());
            long fields = element().getEnclosedElements().stream()
                .filter(e -> e.getKind() == ElementKind.FIELD && !e.getModifiers().contains(Modifier.STATIC)).count();
            due.holds(name + " has " + fields + " fields", fields <= MOST_FIELDS);
            return super.visitClass(tree, none);
        }

        @Override
        public Void visitMethod(MethodTree tree, Void none) {
            Element own = element();
            boolean isConstructor = own.getKind() == ElementKind.CONSTRUCTOR;
            method = own.getEnclosingElement() + "." + own.getSimpleName();
            isMaker = isConstructor || MAKERS.contains(method);
            due.holds(method + " stands once", calls.put(method, new TreeSet<>()) == null);
            due.holds(method + " is short", lines(tree) <= MOST_LINES);
            due.holds(method + " takes few", tree.getParameters().size() <= MOST_PARAMETERS);
            due.holds(method + " throws nothing", tree.getThrows().isEmpty());
            if (!isConstructor && own.getModifiers().contains(Modifier.PUBLIC)) {
                openNames.add(own.getSimpleName().toString());
            } else if (own.getModifiers().contains(Modifier.PRIVATE)) {
                privateNames.add(own.getSimpleName().toString());
            }
            return super.visitMethod(tree, none);
        }

        @Override
        public Void visitVariable(VariableTree tree, Void none) {
            VariableElement own = (VariableElement) element();
            due.holds("a type of rule 3: " + tree, isTaken(own.asType(), 1));
            if (own.getModifiers().contains(Modifier.STATIC)) {
                due.holds("a constant: " + tree, own.getConstantValue() != null);
            }
            if (own.getKind() == ElementKind.FIELD && own.asType().getKind() == TypeKind.ARRAY) {
                due.holds("an array that stays: " + tree, own.getModifiers().contains(Modifier.FINAL));
            }
            return super.visitVariable(tree, none);
        }

        private static boolean isTaken(TypeMirror type, int dimensions) {
            if (type.getKind() == TypeKind.ARRAY) {
                return dimensions > 0
                    && isTaken(((javax.lang.model.type.ArrayType) type).getComponentType(), dimensions - 1);
            }
            return type.getKind() == TypeKind.INT || type.getKind() == TypeKind.LONG
                || type.getKind() == TypeKind.BOOLEAN || type.toString().startsWith("LanternSteps.");
        }

        @Override
        public Void visitMethodInvocation(MethodInvocationTree tree, Void none) {
            Element called = element();
            String name = called.getEnclosingElement() + "." + called.getSimpleName();
            if (name.startsWith("LanternSteps")) {
                calls.get(method).add(name);
            } else if (called.getKind() != ElementKind.CONSTRUCTOR) {
                due.holds("of the library: " + name, LIBRARY.contains(name));
            }
            return super.visitMethodInvocation(tree, none);
        }

        @Override
        public Void visitBinary(BinaryTree tree, Void none) {
            if (tree.getKind() == Tree.Kind.DIVIDE || tree.getKind() == Tree.Kind.REMAINDER) {
                divisor(tree.getRightOperand());
            }
            return super.visitBinary(tree, none);
        }

        @Override
        public Void visitCompoundAssignment(CompoundAssignmentTree tree, Void none) {
            if (tree.getKind() == Tree.Kind.DIVIDE_ASSIGNMENT || tree.getKind() == Tree.Kind.REMAINDER_ASSIGNMENT) {
                divisor(tree.getExpression());
            }
            return super.visitCompoundAssignment(tree, none);
        }

        /** A number that is no 0, a constant, or one that is tested. */
        private static void divisor(ExpressionTree tree) {
            String text = tree.toString();
            due.holds("divides by " + text,
                text.matches("[1-9][0-9]*|PLACES|WALKERS") || TESTED_DIVISORS.contains(text));
        }

        @Override
        public Void visitNewArray(NewArrayTree tree, Void none) {
            due.holds("made once: " + tree, isMaker);
            return super.visitNewArray(tree, none);
        }

        @Override
        public Void visitNewClass(NewClassTree tree, Void none) {
            due.holds("made once: " + tree, isMaker && tree.getClassBody() == null);
            return super.visitNewClass(tree, none);
        }

        @Override
        public Void visitForLoop(ForLoopTree tree, Void none) {
            String condition = String.valueOf(tree.getCondition());
            due.holds("a counter against a bound: " + condition, tree.getCondition() != null
                && tree.getInitializer().size() == 1 && tree.getUpdate().size() == 1
                && condition.matches("\\w+ (<|>=) .*"));
            return super.visitForLoop(tree, none);
        }

        @Override
        public Void visitWhileLoop(WhileLoopTree tree, Void none) {
            never("while", tree);
            return super.visitWhileLoop(tree, none);
        }

        @Override
        public Void visitDoWhileLoop(DoWhileLoopTree tree, Void none) {
            never("do", tree);
            return super.visitDoWhileLoop(tree, none);
        }

        @Override
        public Void visitEnhancedForLoop(EnhancedForLoopTree tree, Void none) {
            never("for over what may be made anew", tree);
            return super.visitEnhancedForLoop(tree, none);
        }

        @Override
        public Void visitLambdaExpression(LambdaExpressionTree tree, Void none) {
            never("lambda", tree);
            return super.visitLambdaExpression(tree, none);
        }

        @Override
        public Void visitMemberReference(MemberReferenceTree tree, Void none) {
            never("method reference", tree);
            return super.visitMemberReference(tree, none);
        }

        @Override
        public Void visitThrow(ThrowTree tree, Void none) {
            never("throw", tree);
            return super.visitThrow(tree, none);
        }

        @Override
        public Void visitTry(TryTree tree, Void none) {
            never("try", tree);
            return super.visitTry(tree, none);
        }

        @Override
        public Void visitSynchronized(SynchronizedTree tree, Void none) {
            never("synchronized", tree);
            return super.visitSynchronized(tree, none);
        }

        @Override
        public Void visitAssert(AssertTree tree, Void none) {
            never("assert", tree);
            return super.visitAssert(tree, none);
        }

        @Override
        public Void visitTypeCast(TypeCastTree tree, Void none) {
            never("cast", tree);
            return super.visitTypeCast(tree, none);
        }

        @Override
        public Void visitInstanceOf(InstanceOfTree tree, Void none) {
            never("instanceof", tree);
            return super.visitInstanceOf(tree, none);
        }

        void end() {
            due.holds("few classes", classes <= MOST_CLASSES);
            for (String name : privateNames) {
                due.holds("no private method bears a public name: " + name, !openNames.contains(name));
            }
            for (String name : calls.keySet()) {
                due.holds(name + " goes as deep as it may", depth(name, 1) <= DEEPEST);
            }
        }

        /** How many methods stand open at once from this one on, itself too, without those that call themselves. */
        private int depth(String name, int level) {
            if (level > 40) {
                due.holds("methods that call one another: " + name, false);
                return level;
            }
            int deepest = 0;
            for (String called : calls.getOrDefault(name, Set.of())) {
                if (called.equals(name)) {
                    due.holds(name + " may call itself", RECURSIVE.contains(name));
                } else {
                    deepest = Math.max(deepest, depth(called, level + 1));
                }
            }
            return 1 + deepest;
        }
    }
}
