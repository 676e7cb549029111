import com.sun.source.tree.AssignmentTree;
import com.sun.source.tree.BinaryTree;
import com.sun.source.tree.BlockTree;
import com.sun.source.tree.ClassTree;
import com.sun.source.tree.CompilationUnitTree;
import com.sun.source.tree.CompoundAssignmentTree;
import com.sun.source.tree.DoWhileLoopTree;
import com.sun.source.tree.EnhancedForLoopTree;
import com.sun.source.tree.ExpressionTree;
import com.sun.source.tree.ForLoopTree;
import com.sun.source.tree.IdentifierTree;
import com.sun.source.tree.ImportTree;
import com.sun.source.tree.LiteralTree;
import com.sun.source.tree.MethodInvocationTree;
import com.sun.source.tree.MethodTree;
import com.sun.source.tree.NewArrayTree;
import com.sun.source.tree.NewClassTree;
import com.sun.source.tree.ParenthesizedTree;
import com.sun.source.tree.Tree;
import com.sun.source.tree.UnaryTree;
import com.sun.source.tree.VariableTree;
import com.sun.source.tree.WhileLoopTree;
import com.sun.source.util.JavacTask;
import com.sun.source.util.TreePath;
import com.sun.source.util.TreePathScanner;
import com.sun.source.util.Trees;
import java.io.IOException;
import java.nio.file.Path;
import java.util.ArrayList;
import java.util.EnumSet;
import java.util.LinkedHashMap;
import java.util.LinkedHashSet;
import java.util.List;
import java.util.Map;
import java.util.Set;
import javax.lang.model.element.Element;
import javax.lang.model.element.ElementKind;
import javax.lang.model.element.ExecutableElement;
import javax.lang.model.element.Modifier;
import javax.lang.model.element.TypeElement;
import javax.lang.model.element.VariableElement;
import javax.lang.model.type.ArrayType;
import javax.lang.model.type.TypeKind;
import javax.lang.model.type.TypeMirror;
import javax.tools.JavaCompiler;
import javax.tools.StandardJavaFileManager;
import javax.tools.ToolProvider;

/** What LANGUAGE.md asks, rule by rule, by the compiler's own tree of the program. It is narrower where the program needs less. */
public final class LanguageTests {
    private static final int MOST_LINES = 60, MOST_PARAMETERS = 7, MOST_DEPTH = 8, MOST_CLASSES = 12, MOST_FIELDS = 20;

    /** Rules 2, 3 and 6, and what the program does without. */
    private static final Set<Tree.Kind> BANNED = EnumSet.of(Tree.Kind.THROW, Tree.Kind.TRY, Tree.Kind.CATCH, Tree.Kind.ASSERT,
        Tree.Kind.SYNCHRONIZED, Tree.Kind.LAMBDA_EXPRESSION, Tree.Kind.MEMBER_REFERENCE, Tree.Kind.SWITCH_EXPRESSION,
        Tree.Kind.ANNOTATION, Tree.Kind.TYPE_CAST, Tree.Kind.INSTANCE_OF, Tree.Kind.STRING_LITERAL, Tree.Kind.NULL_LITERAL,
        Tree.Kind.DOUBLE_LITERAL, Tree.Kind.FLOAT_LITERAL, Tree.Kind.RECORD, Tree.Kind.ENUM, Tree.Kind.INTERFACE,
        Tree.Kind.ANNOTATION_TYPE, Tree.Kind.PARAMETERIZED_TYPE, Tree.Kind.YIELD);

    /** Rule 4: of all that it allows, what the program uses. */
    private static final Set<String> LIBRARY = Set.of("java.lang.System.arraycopy", "java.lang.Math.min", "java.lang.Math.max",
        "java.util.Arrays.fill");

    private static int wrong = 0;

    public static void main(String[] args) throws IOException {
        if (args.length < 1) {
            System.out.println("the program's path is wanted");
            System.exit(1);
        }
        JavaCompiler compiler = ToolProvider.getSystemJavaCompiler();
        try (StandardJavaFileManager files = compiler.getStandardFileManager(null, null, null)) {
            JavacTask task = (JavacTask) compiler.getTask(null, files, null, List.of("-proc:none", "--release", "17"), null,
                files.getJavaFileObjects(Path.of(args[0])));
            List<CompilationUnitTree> units = new ArrayList<>();
            task.parse().forEach(units::add);
            task.analyze();
            Look look = new Look(Trees.instance(task), units.get(0));
            look.scan(units.get(0), null);
            look.whole();
        }
        System.out.println(wrong == 0 ? "the tree keeps to the language" : wrong + " faults against the language");
        if (wrong != 0) {
            System.exit(1);
        }
    }

    private static final class Look extends TreePathScanner<Void, Void> {
        private final Trees trees;
        private final CompilationUnitTree unit;
        private final Map<Element, Set<Element>> calls = new LinkedHashMap<>();
        private final Set<String> faceNames = new LinkedHashSet<>();
        private final List<ExecutableElement> methods = new ArrayList<>();
        private int classes;
        private int loops;

        Look(Trees trees, CompilationUnitTree unit) {
            this.trees = trees;
            this.unit = unit;
        }

        private void fault(int rule, Tree at, String what) {
            wrong++;
            long line = at == null ? 0 : unit.getLineMap().getLineNumber(trees.getSourcePositions().getStartPosition(unit, at));
            System.out.println("rule " + rule + ", line " + line + ": " + what);
        }

        private Element element() {
            return trees.getElement(getCurrentPath());
        }

        private Element elementOf(Tree tree) {
            return trees.getElement(new TreePath(getCurrentPath(), tree));
        }

        private TypeMirror typeOf(Tree tree) {
            return trees.getTypeMirror(new TreePath(getCurrentPath(), tree));
        }

        private boolean own(Element e) {
            Element at = e;
            while (at != null && !(at instanceof TypeElement type && type.getQualifiedName().contentEquals("VectorRounds"))) {
                at = at.getEnclosingElement();
            }
            return at != null;
        }

        @Override
        public Void scan(Tree tree, Void none) {
            if (tree != null && BANNED.contains(tree.getKind())) {
                fault(6, tree, "a " + tree.getKind());
            }
            return super.scan(tree, none);
        }

        @Override
        public Void visitImport(ImportTree tree, Void none) {
            if (!tree.toString().trim().equals("import java.util.Arrays;")) {
                fault(4, tree, tree.toString().trim());
            }
            return null;
        }

        @Override
        public Void visitClass(ClassTree tree, Void none) {
            classes++;
            TypeElement type = (TypeElement) element();
            Set<Modifier> how = type.getModifiers();
            boolean top = type.getEnclosingElement().getKind() == ElementKind.PACKAGE;
            if (top ? !how.equals(Set.of(Modifier.PUBLIC, Modifier.FINAL)) : !how.contains(Modifier.STATIC) || how.contains(Modifier.PUBLIC)
                || how.contains(Modifier.PROTECTED)) {
                fault(top ? 1 : 2, tree, "the class " + type.getSimpleName() + " is " + how);
            }
            if (!top && getCurrentPath().getParentPath().getLeaf().getKind() != Tree.Kind.CLASS) {
                fault(2, tree, "a class within a method");
            }
            if (!type.getSuperclass().toString().equals("java.lang.Object") || !type.getInterfaces().isEmpty()) {
                fault(2, tree, "more than a plain class: " + type.getSimpleName());
            }
            members(tree, type, top);
            return super.visitClass(tree, none);
        }

        private void members(ClassTree tree, TypeElement type, boolean top) {
            int fields = 0;
            for (Tree member : tree.getMembers()) {
                if (member instanceof BlockTree) {
                    fault(5, member, "an initialiser block");
                }
            }
            for (Element e : type.getEnclosedElements()) {
                if (e instanceof VariableElement field) {
                    fields += field.getModifiers().contains(Modifier.STATIC) ? 0 : 1;
                    field(tree, field, top);
                } else if (e instanceof ExecutableElement method && e.getKind() == ElementKind.METHOD) {
                    if (top && method.getModifiers().contains(Modifier.PUBLIC)) {
                        faceNames.add(method.getSimpleName().toString());
                    } else if (top && !method.getModifiers().contains(Modifier.PRIVATE)) {
                        fault(1, tree, "neither public nor private: " + method);
                    }
                }
            }
            if (fields > MOST_FIELDS) {
                fault(11, tree, type.getSimpleName() + " has " + fields + " fields");
            }
        }

        private void field(ClassTree tree, VariableElement field, boolean top) {
            Set<Modifier> how = field.getModifiers();
            if (how.contains(Modifier.STATIC) && (!how.contains(Modifier.FINAL) || field.getConstantValue() == null)) {
                fault(5, tree, "a static field that is no constant: " + field);
            }
            if (top && !how.contains(Modifier.PRIVATE) && !Set.of("BAD", "NOT", "FULL", "STATE", "VOID").contains(field.toString())) {
                fault(1, tree, "a field that is seen: " + field);
            }
        }

        @Override
        public Void visitMethod(MethodTree tree, Void none) {
            ExecutableElement method = (ExecutableElement) element();
            calls.computeIfAbsent(method, m -> new LinkedHashSet<>());
            methods.add(method);
            if (method.getParameters().size() > MOST_PARAMETERS) {
                fault(11, tree, method + " takes many parameters");
            }
            long first = unit.getLineMap().getLineNumber(trees.getSourcePositions().getStartPosition(unit, tree));
            long last = unit.getLineMap().getLineNumber(Math.max(0, trees.getSourcePositions().getEndPosition(unit, tree)));
            if (last - first + 1 > MOST_LINES) {
                fault(11, tree, method + " has " + (last - first + 1) + " lines");
            }
            return super.visitMethod(tree, none);
        }

        @Override
        public Void visitVariable(VariableTree tree, Void none) {
            TypeMirror type = typeOf(tree.getType());
            if (!plain(type) && !(type.getKind() == TypeKind.ARRAY && plain(((ArrayType) type).getComponentType()))) {
                fault(3, tree, "the type " + type);
            }
            return super.visitVariable(tree, none);
        }

        private boolean plain(TypeMirror type) {
            return type.getKind() == TypeKind.INT || type.getKind() == TypeKind.BOOLEAN || type.toString().startsWith("VectorRounds.");
        }

        @Override
        public Void visitMethodInvocation(MethodInvocationTree tree, Void none) {
            ExecutableElement called = (ExecutableElement) element();
            Element caller = enclosing();
            if (own(called)) {
                if (caller == null) {
                    fault(12, tree, "a call that no method makes");
                } else {
                    calls.computeIfAbsent(caller, m -> new LinkedHashSet<>()).add(called);
                }
            } else if (called.getKind() != ElementKind.CONSTRUCTOR
                && !LIBRARY.contains(called.getEnclosingElement() + "." + called.getSimpleName())) {
                fault(4, tree, "the library's " + called.getEnclosingElement() + "." + called.getSimpleName());
            }
            return super.visitMethodInvocation(tree, none);
        }

        /** The method or constructor in whose lines this stands; null in a field's initialiser. */
        private Element enclosing() {
            for (TreePath path = getCurrentPath(); path != null; path = path.getParentPath()) {
                if (path.getLeaf() instanceof MethodTree) {
                    return trees.getElement(path);
                }
            }
            return null;
        }

        // ---- rule 12: all is made with the object

        @Override
        public Void visitNewClass(NewClassTree tree, Void none) {
            made(tree);
            if (tree.getClassBody() != null || !own(elementOf(tree.getIdentifier()))) {
                fault(2, tree, "an object of " + tree.getIdentifier());
            }
            return super.visitNewClass(tree, none);
        }

        @Override
        public Void visitNewArray(NewArrayTree tree, Void none) {
            made(tree);
            if (tree.getDimensions().size() != 1 || constant(tree.getDimensions().get(0)) <= 0) {
                fault(7, tree, "an array whose length is no constant");
            }
            return super.visitNewArray(tree, none);
        }

        private void made(Tree tree) {
            Element by = enclosing();
            if (by != null && by.getKind() != ElementKind.CONSTRUCTOR) {
                fault(12, tree, by + " makes something");
            }
        }

        // ---- rule 7: divisors

        @Override
        public Void visitBinary(BinaryTree tree, Void none) {
            if (tree.getKind() == Tree.Kind.DIVIDE || tree.getKind() == Tree.Kind.REMAINDER) {
                divisor(tree, tree.getRightOperand());
            }
            return super.visitBinary(tree, none);
        }

        @Override
        public Void visitCompoundAssignment(CompoundAssignmentTree tree, Void none) {
            if (tree.getKind() == Tree.Kind.DIVIDE_ASSIGNMENT || tree.getKind() == Tree.Kind.REMAINDER_ASSIGNMENT) {
                divisor(tree, tree.getExpression());
            }
            return super.visitCompoundAssignment(tree, none);
        }

        /** A constant, or a variable that is set once, to Math.max(1, ..). */
        private void divisor(Tree at, ExpressionTree by) {
            if (constant(by) > 0) {
                return;
            }
            TreePath set = elementOf(by) instanceof VariableElement v ? trees.getPath(v) : null;
            String start = set != null && set.getLeaf() instanceof VariableTree v ? "" + v.getInitializer() : "";
            if (!start.startsWith("Math.max(1, ") || assigned(set.getParentPath().getLeaf(), by.toString())) {
                fault(7, at, "the divisor " + by);
            }
        }

        private boolean assigned(Tree within, String name) {
            boolean[] found = {false};
            new TreePathScanner<Void, Void>() {
                @Override
                public Void visitAssignment(AssignmentTree tree, Void none) {
                    found[0] |= tree.getVariable().toString().equals(name);
                    return super.visitAssignment(tree, none);
                }

                @Override
                public Void visitUnary(UnaryTree tree, Void none) {
                    found[0] |= tree.getExpression().toString().equals(name);
                    return super.visitUnary(tree, none);
                }

                @Override
                public Void visitCompoundAssignment(CompoundAssignmentTree tree, Void none) {
                    found[0] |= tree.getVariable().toString().equals(name);
                    return super.visitCompoundAssignment(tree, none);
                }
            }.scan(new TreePath(new TreePath(unit), within), null);
            return found[0];
        }

        /** What a literal or a constant is; 0 if it is neither. */
        private int constant(ExpressionTree tree) {
            if (tree instanceof ParenthesizedTree inside) {
                return constant(inside.getExpression());
            }
            if (tree instanceof LiteralTree literal && literal.getValue() instanceof Integer n) {
                return n;
            }
            if (tree instanceof BinaryTree two && two.getKind() == Tree.Kind.MULTIPLY) {
                return constant(two.getLeftOperand()) * constant(two.getRightOperand());
            }
            return elementOf(tree) instanceof VariableElement v && v.getConstantValue() instanceof Integer n ? n : 0;
        }

        // ---- rule 9: each loop has a counter that goes to a bound

        @Override
        public Void visitForLoop(ForLoopTree tree, Void none) {
            loops++;
            String counter = tree.getInitializer().size() == 1 && tree.getInitializer().get(0) instanceof VariableTree v ? v.getName().toString() : "";
            String update = tree.getUpdate().size() == 1 ? tree.getUpdate().get(0).toString() : "";
            if (counter.isEmpty() || !update.equals(counter + "++;") && !update.equals(counter + "++") || !bounded(tree.getCondition(), counter)
                || assigned(tree.getStatement(), counter)) {
                fault(9, tree, "a loop without a counter: " + tree.getCondition());
            }
            return super.visitForLoop(tree, none);
        }

        @Override
        public Void visitWhileLoop(WhileLoopTree tree, Void none) {
            loops++;
            boolean counted = false;
            for (String counter : new String[] {"steps", "length"}) {
                counted |= bounded(tree.getCondition(), counter) && tree.getStatement().toString().contains(counter + "++;");
            }
            if (!counted) {
                fault(9, tree, "a loop without a counter: " + tree.getCondition());
            }
            return super.visitWhileLoop(tree, none);
        }

        @Override
        public Void visitDoWhileLoop(DoWhileLoopTree tree, Void none) {
            fault(9, tree, "a loop whose end is not looked at");
            return super.visitDoWhileLoop(tree, none);
        }

        @Override
        public Void visitEnhancedForLoop(EnhancedForLoopTree tree, Void none) {
            loops++;
            return super.visitEnhancedForLoop(tree, none);
        }

        /** Whether the condition, or a part of it that must hold, is counter < .. or counter <= .. */
        private boolean bounded(ExpressionTree condition, String counter) {
            if (condition instanceof ParenthesizedTree inside) {
                return bounded(inside.getExpression(), counter);
            }
            if (!(condition instanceof BinaryTree two)) {
                return false;
            }
            if (two.getKind() == Tree.Kind.CONDITIONAL_AND) {
                return bounded(two.getLeftOperand(), counter) || bounded(two.getRightOperand(), counter);
            }
            return (two.getKind() == Tree.Kind.LESS_THAN || two.getKind() == Tree.Kind.LESS_THAN_EQUAL)
                && two.getLeftOperand() instanceof IdentifierTree name && name.getName().contentEquals(counter);
        }

        // ---- the whole of it

        void whole() {
            if (classes > MOST_CLASSES) {
                fault(11, null, classes + " classes");
            }
            if (methods.size() < 60 || loops < 20) {
                fault(11, null, "the tree was not seen: " + methods.size() + " methods, " + loops + " loops");
            }
            for (ExecutableElement m : methods) {
                boolean face = m.getModifiers().contains(Modifier.PUBLIC);
                if (!face && faceNames.contains(m.getSimpleName().toString())) {
                    fault(1, null, m + " bears the name of a public method");
                }
                if (Set.of("equals", "hashCode", "toString", "finalize", "clone").contains(m.getSimpleName().toString())) {
                    fault(6, null, "an own " + m);
                }
            }
            for (Element m : calls.keySet()) {
                depth(m, new ArrayList<>());
            }
        }

        /** Rules 8 and 11: no method comes back to itself, and no more than eight stand open. */
        private void depth(Element m, List<Element> open) {
            if (open.contains(m)) {
                fault(8, null, m + " calls itself by way of " + open);
                return;
            }
            open.add(m);
            if (open.size() == MOST_DEPTH + 1) {
                fault(11, null, "deep calls: " + open);
            } else {
                for (Element next : calls.getOrDefault(m, Set.of())) {
                    depth(next, open);
                }
            }
            open.remove(open.size() - 1);
        }
    }
}
