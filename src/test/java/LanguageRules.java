import com.sun.source.tree.*;
import com.sun.source.util.JavacTask;
import com.sun.source.util.TreePath;
import com.sun.source.util.TreePathScanner;
import com.sun.source.util.Trees;
import java.nio.file.Path;
import java.util.ArrayList;
import java.util.Arrays;
import java.util.HashSet;
import java.util.LinkedHashMap;
import java.util.LinkedHashSet;
import java.util.List;
import java.util.Map;
import java.util.Set;
import java.util.TreeSet;
import javax.lang.model.element.Element;
import javax.lang.model.element.ElementKind;
import javax.lang.model.element.ExecutableElement;
import javax.lang.model.element.Modifier;
import javax.lang.model.element.TypeElement;
import javax.lang.model.element.VariableElement;
import javax.lang.model.type.ArrayType;
import javax.lang.model.type.DeclaredType;
import javax.lang.model.type.TypeKind;
import javax.lang.model.type.TypeMirror;
import javax.tools.JavaCompiler;
import javax.tools.StandardJavaFileManager;
import javax.tools.ToolProvider;

/**
 * BehindBig.java as the compiler reads it, beside LANGUAGE.md, rule by rule. Where a rule leaves more than the class uses,
 * the test leaves what the class uses: who needs more widens it here, within the rule.
 */
public final class LanguageRules {
    private static final Path MAIN = Path.of("src/main/java/BehindBig.java");
    private static final int MOST_LINES = 60, MOST_CLASSES = 12, MOST_FIELDS = 20, MOST_TOLD = 7, DEEPEST = 8;

    /** Rule 4: of the library's calls those that the class has a use for. */
    private static final Set<String> LIBRARY = Set.of("Math.min", "Math.max", "Math.abs", "Integer.bitCount", "System.arraycopy", "Arrays.fill");
    /** Rule 2 and 6: kinds of trees that the class must do without; while and do, too, so that every loop is a for. */
    private static final Set<Tree.Kind> NEVER = Set.of(Tree.Kind.LAMBDA_EXPRESSION, Tree.Kind.MEMBER_REFERENCE, Tree.Kind.THROW, Tree.Kind.TRY,
        Tree.Kind.SYNCHRONIZED, Tree.Kind.ASSERT, Tree.Kind.BINDING_PATTERN, Tree.Kind.INSTANCE_OF, Tree.Kind.ANNOTATION, Tree.Kind.RECORD,
        Tree.Kind.ENUM, Tree.Kind.INTERFACE, Tree.Kind.SWITCH_EXPRESSION, Tree.Kind.WHILE_LOOP, Tree.Kind.DO_WHILE_LOOP, Tree.Kind.STRING_LITERAL,
        Tree.Kind.PARAMETERIZED_TYPE);

    private static int wrong, looked;

    private static void must(boolean so, String rule, Object what) {
        looked++;
        if (so) return;
        wrong++;
        System.out.println("rule " + rule + ": " + what);
    }

    public static void main(String[] args) throws Exception {
        JavaCompiler compiler = ToolProvider.getSystemJavaCompiler();
        try (StandardJavaFileManager files = compiler.getStandardFileManager(null, null, null)) {
            JavacTask task = (JavacTask) compiler.getTask(null, files, null, List.of("--release", "17"), null, files.getJavaFileObjects(MAIN));
            CompilationUnitTree unit = task.parse().iterator().next();
            task.analyze();
            new Reader(unit, Trees.instance(task)).readAll();
        }
        System.out.println(looked + " places looked at, " + wrong + " outside LANGUAGE.md");
        if (wrong != 0) System.exit(1);
    }

    private static final class Reader extends TreePathScanner<Void, Void> {
        private final CompilationUnitTree unit;
        private final Trees trees;
        private final Map<ExecutableElement, Set<ExecutableElement>> calls = new LinkedHashMap<>();
        private final Map<TypeElement, Integer> fields = new LinkedHashMap<>();
        private ExecutableElement method;
        private String body = "";

        Reader(CompilationUnitTree unit, Trees trees) {
            this.unit = unit;
            this.trees = trees;
        }

        void readAll() {
            must(unit.getPackage() == null, "0, no package line", unit.getPackage());
            must(unit.getTypeDecls().size() == 1, "0, one class", unit.getTypeDecls().size());
            for (ImportTree one : unit.getImports()) must(one.toString().trim().equals("import java.util.Arrays;"), "4", one);
            scan(unit, null);
            must(fields.size() <= MOST_CLASSES, "11, classes", fields.keySet());
            for (TypeElement type : fields.keySet()) must(fields.get(type) <= MOST_FIELDS, "11, fields", type + " " + fields.get(type));
            recursion();
            for (ExecutableElement from : calls.keySet()) {
                List<ExecutableElement> deepest = deepestFrom(from, new HashSet<>());
                must(deepest.size() <= DEEPEST, "11, calls deep", deepest);
            }
        }

        @Override
        public Void scan(Tree tree, Void none) {
            if (tree != null) must(!NEVER.contains(tree.getKind()), "2 or 6", tree.getKind() + " at line " + line(tree));
            return super.scan(tree, none);
        }

        // ---- classes, fields, methods

        @Override
        public Void visitClass(ClassTree tree, Void none) {
            TypeElement type = (TypeElement) trees.getElement(getCurrentPath());
            fields.put(type, 0);
            Tree around = getCurrentPath().getParentPath().getLeaf();
            boolean whole = around instanceof CompilationUnitTree;
            must(whole || around instanceof ClassTree, "2, local class", type);
            if (!whole) must(type.getModifiers().contains(Modifier.STATIC) && !type.getModifiers().contains(Modifier.PUBLIC), "1 and 2", type);
            for (Tree member : tree.getMembers()) must(!(member instanceof BlockTree), "5, no initialiser block", type);
            for (Element member : type.getEnclosedElements()) {
                if (!whole || member.getKind() == ElementKind.CLASS) continue;
                must(member.getModifiers().contains(Modifier.PUBLIC) || member.getModifiers().contains(Modifier.PRIVATE), "1", member);
            }
            return super.visitClass(tree, none);
        }

        @Override
        public Void visitVariable(VariableTree tree, Void none) {
            Element it = trees.getElement(getCurrentPath());
            TypeMirror type = it.asType();
            must(isLeft(type), "3", tree);
            if (it.getKind() == ElementKind.FIELD && it.getModifiers().contains(Modifier.STATIC)) {
                must(it.getModifiers().contains(Modifier.FINAL) && tree.getInitializer() != null, "5", tree);
                String name = type.toString();
                must(List.of("int", "long", "boolean", "char", "int[]", "long[]", "char[]", "byte[]").contains(name), "5", tree);
                if (type.getKind() != TypeKind.ARRAY) must(((VariableElement) it).getConstantValue() != null, "5, a constant", tree);
                else must(tree.getInitializer() instanceof NewArrayTree written && written.getInitializers() != null, "5, written out", tree);
            } else if (it.getKind() == ElementKind.FIELD) {
                fields.merge((TypeElement) it.getEnclosingElement(), 1, Integer::sum);
            }
            return super.visitVariable(tree, none);
        }

        private static boolean isLeft(TypeMirror type) {
            if (type.getKind() == TypeKind.ARRAY) {
                TypeMirror of = ((ArrayType) type).getComponentType();
                if (of.getKind() == TypeKind.ARRAY) of = ((ArrayType) of).getComponentType();
                return of.getKind().isPrimitive() || isOwn(type) && isOwn(((ArrayType) type).getComponentType());
            }
            if (type.getKind().isPrimitive()) return type.getKind() != TypeKind.FLOAT && type.getKind() != TypeKind.DOUBLE;
            return isOwn(type);
        }

        private static boolean isOwn(TypeMirror type) {
            if (type.getKind() == TypeKind.ARRAY) return isOwn(((ArrayType) type).getComponentType());
            return type.getKind() == TypeKind.DECLARED && isOwn(((DeclaredType) type).asElement());
        }

        private static boolean isOwn(Element it) {
            Element at = it;
            while (at != null && at.getEnclosingElement() != null && at.getEnclosingElement().getKind() != ElementKind.PACKAGE) at = at.getEnclosingElement();
            return at != null && at.getSimpleName().contentEquals("BehindBig");
        }

        @Override
        public Void visitMethod(MethodTree tree, Void none) {
            method = (ExecutableElement) trees.getElement(getCurrentPath());
            calls.put(method, new LinkedHashSet<>());
            // The compiler's own way of writing: comments and blanks are gone, and every sign has a blank on both sides.
            body = tree.toString();
            must(method.getParameters().size() <= MOST_TOLD, "11, parameters", method);
            must(lastLine(tree) - line(tree) < MOST_LINES, "11, lines", method);
            TypeMirror answer = method.getReturnType();
            must(answer.getKind() == TypeKind.VOID || isLeft(answer), "3", method);
            must(!Set.of("equals", "hashCode", "toString", "finalize", "clone").contains(method.getSimpleName().toString()), "6", method);
            super.visitMethod(tree, none);
            method = null;
            body = "";
            return null;
        }

        // ---- what methods do

        @Override
        public Void visitMethodInvocation(MethodInvocationTree tree, Void none) {
            ExecutableElement called = (ExecutableElement) trees.getElement(getCurrentPath());
            String name = called.getEnclosingElement().getSimpleName() + "." + called.getSimpleName();
            boolean above = name.equals("Object.<init>");
            must(isOwn(called) || above || LIBRARY.contains(name), "4", name + " at line " + line(tree));
            if (method != null && isOwn(called)) calls.get(method).add(called);
            if (method != null && method.getKind() == ElementKind.CONSTRUCTOR) must(above, "12, a constructor calls", name);
            return super.visitMethodInvocation(tree, none);
        }

        @Override
        public Void visitMemberSelect(MemberSelectTree tree, Void none) {
            Element it = trees.getElement(getCurrentPath());
            if (it != null && it.getKind() == ElementKind.FIELD && !isOwn(it)) {
                // Long.MIN_VALUE is the document's own word for an answer.
                must(tree.toString().equals("Long.MIN_VALUE") || tree.toString().endsWith(".length"), "4", tree + " at line " + line(tree));
            }
            return super.visitMemberSelect(tree, none);
        }

        /** The class makes all it needs when an object is made: no call makes anything. */
        @Override
        public Void visitNewClass(NewClassTree tree, Void none) {
            must(tree.getClassBody() == null, "2, anonymous", tree);
            must(isOwn(trees.getTypeMirror(getCurrentPath())), "4", tree);
            must(method == null || method.getKind() == ElementKind.CONSTRUCTOR, "12", tree + " at line " + line(tree));
            return super.visitNewClass(tree, none);
        }

        @Override
        public Void visitNewArray(NewArrayTree tree, Void none) {
            must(method == null, "12", tree + " at line " + line(tree));
            return super.visitNewArray(tree, none);
        }

        @Override
        public Void visitForLoop(ForLoopTree tree, Void none) {
            must(tree.getCondition() != null && !tree.getUpdate().isEmpty(), "9", tree);
            return super.visitForLoop(tree, none);
        }

        @Override
        public Void visitTypeCast(TypeCastTree tree, Void none) {
            must(trees.getTypeMirror(new TreePath(getCurrentPath(), tree.getType())).getKind().isPrimitive(), "6, cast", tree);
            return super.visitTypeCast(tree, none);
        }

        @Override
        public Void visitBinary(BinaryTree tree, Void none) {
            if (tree.getKind() == Tree.Kind.DIVIDE || tree.getKind() == Tree.Kind.REMAINDER) divisor(tree.getRightOperand());
            TypeMirror type = trees.getTypeMirror(getCurrentPath());
            must(type.getKind().isPrimitive(), "10, no joined texts", tree);
            return super.visitBinary(tree, none);
        }

        @Override
        public Void visitCompoundAssignment(CompoundAssignmentTree tree, Void none) {
            boolean parts = tree.getKind() == Tree.Kind.DIVIDE_ASSIGNMENT || tree.getKind() == Tree.Kind.REMAINDER_ASSIGNMENT;
            if (parts) divisor(tree.getExpression());
            kept(tree.getVariable());
            return super.visitCompoundAssignment(tree, none);
        }

        @Override
        public Void visitAssignment(AssignmentTree tree, Void none) {
            kept(tree.getVariable());
            return super.visitAssignment(tree, none);
        }

        @Override
        public Void visitUnary(UnaryTree tree, Void none) {
            boolean changes = Set.of(Tree.Kind.POSTFIX_INCREMENT, Tree.Kind.POSTFIX_DECREMENT, Tree.Kind.PREFIX_INCREMENT, Tree.Kind.PREFIX_DECREMENT)
                .contains(tree.getKind());
            if (changes) kept(tree.getExpression());
            return super.visitUnary(tree, none);
        }

        /** Rule 5: what is static is never changed. */
        private void kept(ExpressionTree target) {
            ExpressionTree whole = target instanceof ArrayAccessTree access ? access.getExpression() : target;
            Element it = trees.getElement(new TreePath(getCurrentPath(), whole));
            must(it == null || !it.getModifiers().contains(Modifier.STATIC), "5, changed", target);
        }

        /** Rule 7: a constant that is not 0, or what the same method compares first. */
        private void divisor(ExpressionTree by) {
            Element it = trees.getElement(new TreePath(getCurrentPath(), by));
            Object told = by instanceof LiteralTree literal ? literal.getValue() : it instanceof VariableElement v ? v.getConstantValue() : null;
            boolean compared = false;
            for (String test : List.of(" < 1", " == 0", " != 0")) compared |= body.contains(by + test);
            must(told instanceof Number n ? n.longValue() != 0 : compared, "7, divisor", by + " in " + method);
        }

        // ---- who calls whom

        /** Rule 8: only private methods call themselves or one another, and each carries its depth. */
        private void recursion() {
            Set<String> round = new TreeSet<>();
            for (ExecutableElement from : calls.keySet()) {
                if (!reached(from).contains(from)) continue;
                round.add(from.getSimpleName().toString());
                must(from.getModifiers().contains(Modifier.PRIVATE), "8, private", from);
                boolean carried = false;
                for (VariableElement told : from.getParameters()) carried |= Set.of("depth", "open").contains(told.getSimpleName().toString());
                must(carried, "8, depth", from);
            }
            must(round.equals(new TreeSet<>(Arrays.asList("readPart", "readOne", "run"))), "8, recursion in", round);
        }

        private Set<ExecutableElement> reached(ExecutableElement from) {
            Set<ExecutableElement> all = new LinkedHashSet<>();
            List<ExecutableElement> open = new ArrayList<>(calls.getOrDefault(from, Set.of()));
            while (!open.isEmpty()) {
                ExecutableElement one = open.remove(open.size() - 1);
                if (all.add(one)) open.addAll(calls.getOrDefault(one, Set.of()));
            }
            return all;
        }

        /** The longest chain of calls in which none comes twice; those that call one another count once. */
        private List<ExecutableElement> deepestFrom(ExecutableElement from, Set<ExecutableElement> open) {
            List<ExecutableElement> best = List.of();
            open.add(from);
            boolean round = reached(from).contains(from);
            for (ExecutableElement to : calls.getOrDefault(from, Set.of())) {
                if (open.contains(to)) continue;
                List<ExecutableElement> one = deepestFrom(to, open);
                if (one.size() > best.size()) best = one;
            }
            open.remove(from);
            List<ExecutableElement> all = new ArrayList<>(best);
            if (!round || best.isEmpty() || !reached(best.get(0)).contains(from)) all.add(0, from);
            return all;
        }

        private long line(Tree tree) {
            return unit.getLineMap().getLineNumber(Math.max(0, trees.getSourcePositions().getStartPosition(unit, tree)));
        }

        private long lastLine(Tree tree) {
            return unit.getLineMap().getLineNumber(Math.max(0, trees.getSourcePositions().getEndPosition(unit, tree)));
        }
    }
}
