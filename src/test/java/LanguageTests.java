import com.sun.source.tree.AssertTree;
import com.sun.source.tree.AssignmentTree;
import com.sun.source.tree.BinaryTree;
import com.sun.source.tree.BlockTree;
import com.sun.source.tree.ClassTree;
import com.sun.source.tree.CompilationUnitTree;
import com.sun.source.tree.CompoundAssignmentTree;
import com.sun.source.tree.DoWhileLoopTree;
import com.sun.source.tree.EnhancedForLoopTree;
import com.sun.source.tree.ExpressionStatementTree;
import com.sun.source.tree.ExpressionTree;
import com.sun.source.tree.ForLoopTree;
import com.sun.source.tree.IdentifierTree;
import com.sun.source.tree.ImportTree;
import com.sun.source.tree.InstanceOfTree;
import com.sun.source.tree.LambdaExpressionTree;
import com.sun.source.tree.MemberReferenceTree;
import com.sun.source.tree.MemberSelectTree;
import com.sun.source.tree.MethodInvocationTree;
import com.sun.source.tree.MethodTree;
import com.sun.source.tree.NewArrayTree;
import com.sun.source.tree.NewClassTree;
import com.sun.source.tree.SynchronizedTree;
import com.sun.source.tree.ThrowTree;
import com.sun.source.tree.Tree;
import com.sun.source.tree.TryTree;
import com.sun.source.tree.TypeCastTree;
import com.sun.source.tree.UnaryTree;
import com.sun.source.tree.VariableTree;
import com.sun.source.tree.WhileLoopTree;
import com.sun.source.util.JavacTask;
import com.sun.source.util.TreePathScanner;
import com.sun.source.util.Trees;
import java.io.File;
import java.util.ArrayList;
import java.util.Arrays;
import java.util.HashMap;
import java.util.HashSet;
import java.util.List;
import java.util.Map;
import java.util.Set;
import java.util.TreeSet;
import javax.lang.model.element.Element;
import javax.lang.model.element.ElementKind;
import javax.lang.model.element.ExecutableElement;
import javax.lang.model.element.Modifier;
import javax.lang.model.element.VariableElement;
import javax.lang.model.type.TypeMirror;
import javax.tools.JavaCompiler;
import javax.tools.StandardJavaFileManager;
import javax.tools.ToolProvider;

/**
 * The rules of LANGUAGE.md, looked up in the source by the compiler's own tree. They are held tighter here than they are
 * there, as the class needs less than they leave; who needs more may widen a list here, as far as the rule goes.
 */
public final class LanguageTests {
    private static final Trial trial = new Trial();
    private static final Set<String> LIBRARY = Set.of("java.lang.String.length()", "java.lang.String.charAt(int)",
            "java.lang.String.indexOf(int)", "java.lang.Math.max(int,int)", "java.lang.Math.min(int,int)",
            "java.util.Arrays.copyOf(byte[],int)");
    private static final Set<String> TYPES = Set.of("int", "long", "byte", "boolean", "int[]", "long[]", "byte[]",
            "java.lang.String");
    private static final Set<String> THROWN = Set.of("java.lang.IllegalArgumentException",
            "java.util.NoSuchElementException");
    private static final Set<String> IMPORTS = Set.of("java.util.Arrays", "java.util.NoSuchElementException");

    public static void main(String[] args) throws Exception {
        JavaCompiler compiler = ToolProvider.getSystemJavaCompiler();
        try (StandardJavaFileManager files = compiler.getStandardFileManager(null, null, null)) {
            JavacTask task = (JavacTask) compiler.getTask(null, files, null, List.of("-proc:none"), null,
                    files.getJavaFileObjects(new File("src/main/java/TestimonyBook.java")));
            List<CompilationUnitTree> units = new ArrayList<>();
            task.parse().forEach(units::add);
            task.analyze();
            Walk walk = new Walk(Trees.instance(task), units.get(0));
            walk.scan(units.get(0), null);
            walk.finish();
        }
        files();
        trial.finish();
    }

    private static void files() {
        File[] all = new File("src/main/java").listFiles();
        trial.due("the program is one file", all == null ? "" : Arrays.toString(all),
                "[src/main/java/TestimonyBook.java]");
    }

    private static final class Walk extends TreePathScanner<Void, Void> {
        private final Trees trees;
        private final CompilationUnitTree unit;
        private final Map<String, Set<String>> calls = new HashMap<>();
        private final Set<String> face = new TreeSet<>();
        private final Set<String> others = new TreeSet<>();
        private ExecutableElement method;
        private int classes = 0;

        Walk(Trees trees, CompilationUnitTree unit) {
            this.trees = trees;
            this.unit = unit;
        }

        private Element element() {
            return trees.getElement(getCurrentPath());
        }

        private long lineOf(Tree tree) {
            return unit.getLineMap().getLineNumber(trees.getSourcePositions().getStartPosition(unit, tree));
        }

        private long lastLineOf(Tree tree) {
            return unit.getLineMap().getLineNumber(trees.getSourcePositions().getEndPosition(unit, tree));
        }

        private void must(int rule, String what, Tree tree, boolean kept) {
            trial.due("line " + lineOf(tree) + ", rule " + rule + ": " + what, kept ? 1 : 0, 1);
        }

        private static String told(ExecutableElement e) {
            return e.getEnclosingElement() + "." + e;
        }

        private static boolean isOwn(Element e) {
            return e.getEnclosingElement().toString().startsWith("TestimonyBook");
        }

        private static boolean isOwnOrListed(TypeMirror type) {
            return TYPES.contains(type.toString()) || type.toString().startsWith("TestimonyBook");
        }

        private boolean inConstructor() {
            return method != null && method.getKind() == ElementKind.CONSTRUCTOR;
        }

        // Rules 1, 2, 11: classes and methods.

        @Override
        public Void visitClass(ClassTree tree, Void v) {
            classes++;
            must(2, "no class in a method", tree, method == null);
            must(2, "a class, no other kind is needed", tree, tree.getKind() == Tree.Kind.CLASS);
            int fields = 0;
            for (Tree member : tree.getMembers()) {
                must(5, "no initialiser block", member, !(member instanceof BlockTree));
                if (member instanceof VariableTree field) {
                    fields += field.getModifiers().getFlags().contains(Modifier.STATIC) ? 0 : 1;
                }
            }
            must(11, "at most twenty fields", tree, fields <= 20);
            return super.visitClass(tree, v);
        }

        @Override
        public Void visitMethod(MethodTree tree, Void v) {
            method = (ExecutableElement) element();
            String name = method.getSimpleName().toString();
            calls.putIfAbsent(told(method), new TreeSet<>());
            if (!inConstructor()) {
                (method.getModifiers().contains(Modifier.PUBLIC) ? face : others).add(name);
            }
            must(6, "no equals, hashCode, toString: " + name, tree, !Set.of("equals", "hashCode", "toString")
                    .contains(name));
            must(11, "at most seven parameters: " + name, tree, tree.getParameters().size() <= 7);
            must(11, "at most sixty lines: " + name, tree, lastLineOf(tree) - lineOf(tree) < 60);
            super.visitMethod(tree, v);
            method = null;
            return null;
        }

        // Rules 3 and 5: types and static fields.

        @Override
        public Void visitVariable(VariableTree tree, Void v) {
            VariableElement variable = (VariableElement) element();
            must(3, "a listed type: " + variable.asType(), tree, isOwnOrListed(variable.asType()));
            if (variable.getModifiers().contains(Modifier.STATIC)) {
                must(5, "a constant: " + tree.getName(), tree, variable.getConstantValue() != null);
            }
            if (variable.getConstantValue() instanceof String text) {
                must(4, "signs 1 to 127: " + tree.getName(), tree, text.chars().allMatch(c -> c >= 1 && c <= 127));
            }
            return super.visitVariable(tree, v);
        }

        // Rules 4, 8, 12, 13: the library, who calls whom, what is made.

        @Override
        public Void visitMethodInvocation(MethodInvocationTree tree, Void v) {
            ExecutableElement called = (ExecutableElement) element();
            if (isOwn(called)) {
                calls.computeIfAbsent(told(method), k -> new TreeSet<>()).add(told(called));
            } else if (called.getKind() != ElementKind.CONSTRUCTOR) {
                must(4, "of the library: " + told(called), tree, LIBRARY.contains(told(called)));
            }
            must(12, "a constructor calls constructors alone: " + told(called), tree,
                    !inConstructor() || called.getKind() == ElementKind.CONSTRUCTOR);
            return super.visitMethodInvocation(tree, v);
        }

        @Override
        public Void visitMemberSelect(MemberSelectTree tree, Void v) {
            Element chosen = element();
            if (chosen != null && chosen.getKind() == ElementKind.FIELD && !isOwn(chosen)) {
                must(4, "no field of the library: " + tree, tree, tree.getIdentifier().contentEquals("length"));
            }
            return super.visitMemberSelect(tree, v);
        }

        @Override
        public Void visitIdentifier(IdentifierTree tree, Void v) {
            boolean bare = tree.getName().contentEquals("this")
                    && !(getCurrentPath().getParentPath().getLeaf() instanceof MemberSelectTree);
            must(12, "the object itself is handed to none", tree, !bare);
            return super.visitIdentifier(tree, v);
        }

        @Override
        public Void visitNewClass(NewClassTree tree, Void v) {
            boolean thrown = getCurrentPath().getParentPath().getLeaf() instanceof ThrowTree;
            must(12, "objects are made by constructors", tree, thrown || method == null || inConstructor());
            must(2, "no class without a name", tree, tree.getClassBody() == null);
            Element made = element();
            must(3, "an own object: " + tree, tree, thrown || isOwn(made));
            return super.visitNewClass(tree, v);
        }

        @Override
        public Void visitNewArray(NewArrayTree tree, Void v) {
            must(12, "rows are made by constructors", tree, method == null || inConstructor());
            must(3, "of one dimension", tree, tree.getDimensions().size() == 1);
            return super.visitNewArray(tree, v);
        }

        @Override
        public Void visitImport(ImportTree tree, Void v) {
            must(4, "an import: " + tree, tree, !tree.isStatic()
                    && IMPORTS.contains(tree.getQualifiedIdentifier().toString()));
            return null;
        }

        // Rule 6: exceptions.

        @Override
        public Void visitThrow(ThrowTree tree, Void v) {
            must(6, "no throw in a constructor", tree, !inConstructor());
            boolean written = false;
            if (tree.getExpression() instanceof NewClassTree made) {
                written = made.getArguments().size() == 1
                        && made.getArguments().get(0).getKind() == Tree.Kind.STRING_LITERAL
                        && THROWN.contains(typeOf(made).toString());
            }
            must(6, "a new one with a written text", tree, written);
            return super.visitThrow(tree, v);
        }

        private TypeMirror typeOf(Tree tree) {
            return trees.getTypeMirror(trees.getPath(unit, tree));
        }

        @Override
        public Void visitTry(TryTree tree, Void v) {
            must(6, "no try is needed", tree, false);
            return super.visitTry(tree, v);
        }

        @Override
        public Void visitSynchronized(SynchronizedTree tree, Void v) {
            must(6, "no synchronized", tree, false);
            return super.visitSynchronized(tree, v);
        }

        @Override
        public Void visitAssert(AssertTree tree, Void v) {
            must(6, "no assert", tree, false);
            return super.visitAssert(tree, v);
        }

        @Override
        public Void visitInstanceOf(InstanceOfTree tree, Void v) {
            must(6, "no instanceof is needed", tree, false);
            return super.visitInstanceOf(tree, v);
        }

        @Override
        public Void visitTypeCast(TypeCastTree tree, Void v) {
            must(6, "casts of numbers alone: " + tree, tree, typeOf(tree.getType()).getKind().isPrimitive());
            return super.visitTypeCast(tree, v);
        }

        @Override
        public Void visitLambdaExpression(LambdaExpressionTree tree, Void v) {
            must(2, "no lambda", tree, false);
            return super.visitLambdaExpression(tree, v);
        }

        @Override
        public Void visitMemberReference(MemberReferenceTree tree, Void v) {
            must(2, "no method reference", tree, false);
            return super.visitMemberReference(tree, v);
        }

        // Rules 6, 7, 10: numbers alone are reckoned with and compared; none is divided by what may be 0.

        @Override
        public Void visitBinary(BinaryTree tree, Void v) {
            boolean numbers = typeOf(tree.getLeftOperand()).getKind().isPrimitive()
                    && typeOf(tree.getRightOperand()).getKind().isPrimitive();
            must(10, "between numbers: " + tree, tree, numbers);
            if (tree.getKind() == Tree.Kind.DIVIDE || tree.getKind() == Tree.Kind.REMAINDER) {
                must(7, "a written divisor: " + tree, tree,
                        tree.getRightOperand().getKind() == Tree.Kind.INT_LITERAL
                        && !tree.getRightOperand().toString().equals("0"));
            }
            return super.visitBinary(tree, v);
        }

        @Override
        public Void visitCompoundAssignment(CompoundAssignmentTree tree, Void v) {
            must(7, "no division: " + tree, tree, tree.getKind() != Tree.Kind.DIVIDE_ASSIGNMENT
                    && tree.getKind() != Tree.Kind.REMAINDER_ASSIGNMENT);
            must(10, "of a number: " + tree, tree, typeOf(tree.getVariable()).getKind().isPrimitive());
            return super.visitCompoundAssignment(tree, v);
        }

        // Rule 9: a counter that goes one way, against a bound.

        @Override
        public Void visitForLoop(ForLoopTree tree, Void v) {
            String counter = tree.getUpdate().size() == 1 ? counterOf(tree.getUpdate().get(0)) : "";
            must(9, "a counter: " + tree.getUpdate(), tree, !counter.isEmpty());
            must(9, "it is held against a bound: " + tree.getCondition(), tree,
                    tree.getCondition() != null && bounds(tree.getCondition(), counter));
            boolean[] changed = new boolean[1];
            new TreePathScanner<Void, Void>() {
                @Override
                public Void visitAssignment(AssignmentTree inner, Void none) {
                    changed[0] |= inner.getVariable().toString().equals(counter);
                    return super.visitAssignment(inner, none);
                }

                @Override
                public Void visitCompoundAssignment(CompoundAssignmentTree inner, Void none) {
                    changed[0] |= inner.getVariable().toString().equals(counter);
                    return super.visitCompoundAssignment(inner, none);
                }

                @Override
                public Void visitUnary(UnaryTree inner, Void none) {
                    boolean counts = inner.getKind().toString().contains("CREMENT");
                    changed[0] |= counts && inner.getExpression().toString().equals(counter);
                    return super.visitUnary(inner, none);
                }
            }.scan(trees.getPath(unit, tree.getStatement()), null);
            must(9, "none else changes it: " + counter, tree, !changed[0]);
            return super.visitForLoop(tree, v);
        }

        /** What a loop's update changes by a number; nothing, if it does another thing. */
        private static String counterOf(ExpressionStatementTree update) {
            ExpressionTree e = update.getExpression();
            if (e instanceof UnaryTree unary && e.getKind() == Tree.Kind.POSTFIX_INCREMENT) {
                return unary.getExpression().toString();
            }
            if (e instanceof UnaryTree unary && e.getKind() == Tree.Kind.POSTFIX_DECREMENT) {
                return unary.getExpression().toString();
            }
            if (e instanceof CompoundAssignmentTree step && step.getExpression().getKind() == Tree.Kind.INT_LITERAL) {
                return step.getVariable().toString();
            }
            return "";
        }

        /** Whether a condition, or one of those that it joins by &&, compares the counter. */
        private static boolean bounds(ExpressionTree condition, String counter) {
            if (condition instanceof BinaryTree both && condition.getKind() == Tree.Kind.CONDITIONAL_AND) {
                return bounds(both.getLeftOperand(), counter) || bounds(both.getRightOperand(), counter);
            }
            return condition instanceof BinaryTree one && one.getLeftOperand().toString().equals(counter)
                    && Set.of(Tree.Kind.LESS_THAN, Tree.Kind.LESS_THAN_EQUAL, Tree.Kind.GREATER_THAN_EQUAL)
                    .contains(condition.getKind());
        }

        @Override
        public Void visitWhileLoop(WhileLoopTree tree, Void v) {
            must(9, "loops count", tree, false);
            return super.visitWhileLoop(tree, v);
        }

        @Override
        public Void visitDoWhileLoop(DoWhileLoopTree tree, Void v) {
            must(9, "loops count", tree, false);
            return super.visitDoWhileLoop(tree, v);
        }

        @Override
        public Void visitEnhancedForLoop(EnhancedForLoopTree tree, Void v) {
            must(12, "loops go by index", tree, false);
            return super.visitEnhancedForLoop(tree, v);
        }

        // Rules 8 and 11: no recursion, at most eight deep, at most twelve classes.

        void finish() {
            trial.due("rule 11: at most twelve classes (" + classes + ")", classes <= 12 ? 1 : 0, 1);
            face.retainAll(others);
            trial.due("rule 1: public names that other methods have", face.toString(), "[]");
            trial.due("calls were found", calls.size() > 100 ? 1 : 0, 1);
            for (String name : calls.keySet()) {
                int depth = depthOf(name, new HashSet<>());
                trial.due("rules 8 and 11: " + name + " is at most eight deep (" + depth + ")", depth <= 8 ? 1 : 0, 1);
            }
        }

        /** How many calls stand open at once, this one counted; more than any limit, if one stands open already. */
        private int depthOf(String name, Set<String> open) {
            if (!open.add(name)) {
                return 1000;
            }
            int deepest = 0;
            for (String called : calls.getOrDefault(name, Set.of())) {
                deepest = Math.max(deepest, depthOf(called, open));
            }
            open.remove(name);
            return deepest + 1;
        }
    }
}
