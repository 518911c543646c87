import com.sun.source.tree.AssertTree;
import com.sun.source.tree.BinaryTree;
import com.sun.source.tree.BlockTree;
import com.sun.source.tree.ClassTree;
import com.sun.source.tree.CompilationUnitTree;
import com.sun.source.tree.CompoundAssignmentTree;
import com.sun.source.tree.DoWhileLoopTree;
import com.sun.source.tree.ExpressionTree;
import com.sun.source.tree.ForLoopTree;
import com.sun.source.tree.ImportTree;
import com.sun.source.tree.LambdaExpressionTree;
import com.sun.source.tree.MemberReferenceTree;
import com.sun.source.tree.MethodInvocationTree;
import com.sun.source.tree.MethodTree;
import com.sun.source.tree.NewArrayTree;
import com.sun.source.tree.NewClassTree;
import com.sun.source.tree.SynchronizedTree;
import com.sun.source.tree.ThrowTree;
import com.sun.source.tree.Tree;
import com.sun.source.tree.TryTree;
import com.sun.source.tree.TypeCastTree;
import com.sun.source.tree.VariableTree;
import com.sun.source.tree.WhileLoopTree;
import com.sun.source.util.JavacTask;
import com.sun.source.util.TreePath;
import com.sun.source.util.TreePathScanner;
import com.sun.source.util.Trees;
import java.io.IOException;
import java.nio.file.Files;
import java.nio.file.Path;
import java.util.ArrayList;
import java.util.HashMap;
import java.util.LinkedHashSet;
import java.util.List;
import java.util.Map;
import java.util.Random;
import java.util.Set;
import java.util.TreeSet;
import javax.lang.model.element.Element;
import javax.lang.model.element.ElementKind;
import javax.lang.model.element.Modifier;
import javax.lang.model.element.VariableElement;
import javax.tools.JavaCompiler;
import javax.tools.StandardJavaFileManager;
import javax.tools.ToolProvider;

/**
 * The rules of ../shared/LANGUAGE.md that can be read off the source, and that no call throws; what is printed begins with
 * the rule's number. Where a rule leaves more than the class has a use for, only what it uses is let pass.
 */
public final class LanguageTest {
    private static final Path SOURCE = Path.of("src/main/java/FreshShares.java");

    private static final Set<String> FACE = Set.of("row", "bent", "member", "say", "wipe", "fault", "act", "named", "fits",
            "seal", "weighs", "loot", "worlds", "thief", "image", "restore", "count");
    private static final Set<String> CONSTANTS = Set.of("UNKNOWN", "OUTSIDE", "STATE", "FULL", "NO", "NONE", "FAULT");
    /** Of all that rule 4 leaves, what the class has a use for. */
    private static final Set<String> LIBRARY = Set.of("java.util.Arrays.fill", "java.lang.System.arraycopy",
            "java.lang.Math.min", "java.lang.Integer.bitCount", "java.lang.Object.<init>");
    private static final Set<String> NUMBERS = Set.of("int", "boolean", "int[]");

    private static final int PARAMETERS = 7, LINES = 60, DEPTH = 8, CLASSES = 12, FIELDS = 20;

    private static int wrong = 0;

    public static void main(String[] args) throws IOException {
        JavaCompiler compiler = ToolProvider.getSystemJavaCompiler();
        try (StandardJavaFileManager files = compiler.getStandardFileManager(null, null, null)) {
            JavacTask task = (JavacTask) compiler.getTask(null, files, null, List.of("-proc:none"), null,
                    files.getJavaFileObjects(SOURCE));
            CompilationUnitTree unit = task.parse().iterator().next();
            task.analyze();
            Rules rules = new Rules(Trees.instance(task), unit);
            rules.scan(unit, null);
            rules.end();
        }
        plainSigns();
        neverThrows();
        System.out.println(wrong == 0 ? "no rule is broken" : wrong + " things break rules");
        if (wrong != 0) {
            System.exit(1);
        }
    }

    private static void plainSigns() throws IOException {
        for (char sign : Files.readString(SOURCE).toCharArray()) {
            if (sign > 126) {
                report(4, "a sign that is not plain: " + (int) sign);
            }
        }
    }

    /** Calls with all kinds of numbers, far behind the 512th, too: rule 7 leaves no state out. */
    private static void neverThrows() {
        int[] odd = {Integer.MIN_VALUE, -33, -32, -31, -8, -1, 0, 8, 23, 24, 31, 32, 33, 200, 210, 255, 256, Integer.MAX_VALUE};
        String signs = "dfowbts1234567";
        for (int run = 0; run < 60; run++) {
            Random random = new Random(run);
            FreshShares x = new FreshShares();
            for (int n = 0; n < 5000; n++) {
                int[] a = new int[3];
                for (int k = 0; k < a.length; k++) {
                    a[k] = random.nextInt(4) == 0 ? odd[random.nextInt(odd.length)] : random.nextInt(25);
                }
                try {
                    call(x, random.nextInt(24), a, signs.charAt(random.nextInt(signs.length())));
                } catch (RuntimeException e) {
                    report(7, "a call throws: " + e);
                    return;
                }
            }
        }
    }

    private static void call(FreshShares x, int which, int[] a, int sign) {
        switch (which) {
            case 0: x.row(a[0], a[1], a[2]); break;
            case 1: x.bent(a[0], a[1], a[2]); break;
            case 2: x.member(a[0], a[1]); break;
            case 3: x.say(a[0]); x.wipe(); break;
            case 4: x.fault(); break;
            case 5: x.named(a[0]); break;
            case 6: x.fits(a[0], a[1]); break;
            case 7: x.seal(a[0]); break;
            case 8: x.weighs(a[0], a[1], a[2]); break;
            case 9: x.loot(a[0], a[1]); break;
            case 10: x.worlds(a[0], a[1]); break;
            case 11: x.thief(a[0]); break;
            case 12: x.image(a[0]); break;
            case 13: x.restore(a[0]); break;
            case 14: x.count(a[0]); break;
            case 15: x.wipe(); break;
            case 16: x.wipe(); x.say('f'); x.act(); break;
            case 17: x.wipe(); x.say('d'); x.say('1' + (a[0] & 3)); x.act(); break;
            case 18: case 19: x.act(); break;
            default: x.say(sign);
        }
    }

    private static void report(int rule, String what) {
        wrong++;
        System.out.println("rule " + rule + ": " + what);
    }

    private static final class Rules extends TreePathScanner<Void, Void> {
        private final Trees trees;
        private final CompilationUnitTree unit;
        private final Set<Element> own = new LinkedHashSet<>();
        private final Map<Element, Set<Element>> calls = new HashMap<>();
        private final List<String> publicNames = new ArrayList<>();
        private Element method;

        Rules(Trees trees, CompilationUnitTree unit) {
            this.trees = trees;
            this.unit = unit;
        }

        /** What can be told only when all was seen. */
        void end() {
            if (own.size() > CLASSES) {
                report(11, own.size() + " classes");
            }
            if (!new TreeSet<>(publicNames).equals(new TreeSet<>(FACE))) {
                report(1, "the public methods are " + publicNames);
            }
            for (Element from : calls.keySet()) {
                List<Element> open = new ArrayList<>();
                walk(from, open);
            }
        }

        /** Follows the calls of the class's own methods; those that stand open are carried along. */
        private void walk(Element from, List<Element> open) {
            if (open.contains(from)) {
                report(8, from + " calls itself");
                return;
            }
            open.add(from);
            if (open.size() > DEPTH) {
                report(11, "deeper than " + DEPTH + ": " + open);
            } else {
                for (Element to : calls.getOrDefault(from, Set.of())) {
                    walk(to, open);
                }
            }
            open.remove(open.size() - 1);
        }

        private Element here() {
            return trees.getElement(getCurrentPath());
        }

        private long lines(Tree tree) {
            long from = trees.getSourcePositions().getStartPosition(unit, tree);
            long to = trees.getSourcePositions().getEndPosition(unit, tree);
            return unit.getLineMap().getLineNumber(to) - unit.getLineMap().getLineNumber(from) + 1;
        }

        @Override
        public Void visitImport(ImportTree tree, Void none) {
            if (!tree.getQualifiedIdentifier().toString().equals("java.util.Arrays") || tree.isStatic()) {
                report(4, tree.toString().strip());
            }
            return super.visitImport(tree, none);
        }

        @Override
        public Void visitClass(ClassTree tree, Void none) {
            Element type = here();
            boolean outer = own.isEmpty();
            own.add(type);
            Set<Modifier> is = type.getModifiers();
            if (outer ? !is.equals(Set.of(Modifier.PUBLIC, Modifier.FINAL)) : !is.contains(Modifier.STATIC)
                    || is.contains(Modifier.PUBLIC) || is.contains(Modifier.PROTECTED)) {
                report(outer ? 1 : 2, tree.getSimpleName() + " is " + is);
            }
            if (type.getKind() != ElementKind.CLASS || tree.getExtendsClause() != null
                    || !tree.getImplementsClause().isEmpty() || !tree.getTypeParameters().isEmpty()) {
                report(2, tree.getSimpleName() + " is of a kind that this test does not know");
            }
            long fields = type.getEnclosedElements().stream().filter(e -> e.getKind() == ElementKind.FIELD
                    && !e.getModifiers().contains(Modifier.STATIC)).count();
            if (fields > FIELDS) {
                report(11, tree.getSimpleName() + " has " + fields + " fields");
            }
            return super.visitClass(tree, none);
        }

        @Override
        public Void visitMethod(MethodTree tree, Void none) {
            Element before = method;
            method = here();
            calls.computeIfAbsent(method, m -> new LinkedHashSet<>());
            String name = method.getSimpleName().toString();
            boolean isPublic = method.getModifiers().contains(Modifier.PUBLIC);
            if (method.getKind() == ElementKind.METHOD && isPublic) {
                publicNames.add(name);
            }
            if (!isPublic && FACE.contains(name)) {
                report(1, name + " of " + method.getEnclosingElement() + " bears the name of a public method");
            }
            boolean isOuter = method.getEnclosingElement().getSimpleName().contentEquals("FreshShares");
            if (isOuter && !isPublic && !method.getModifiers().contains(Modifier.PRIVATE)) {
                report(1, method + " is seen from without");
            }
            if (!tree.getThrows().isEmpty()) {
                report(6, method + " throws");
            }
            if (tree.getParameters().size() > PARAMETERS) {
                report(11, method + " takes too many parameters");
            }
            if (lines(tree) > LINES) {
                report(11, method + " has " + lines(tree) + " lines");
            }
            super.visitMethod(tree, none);
            method = before;
            return null;
        }

        @Override
        public Void visitVariable(VariableTree tree, Void none) {
            VariableElement variable = (VariableElement) here();
            String type = variable.asType().toString();
            String plain = type.endsWith("[]") ? type.substring(0, type.length() - 2) : type;
            if (!NUMBERS.contains(type) && !isOwn(plain)) {
                report(3, variable + " is of the type " + type);
            }
            if (variable.getKind() == ElementKind.FIELD) {
                field(variable);
            }
            return super.visitVariable(tree, none);
        }

        private static void field(VariableElement field) {
            if (field.getModifiers().contains(Modifier.STATIC) && field.getConstantValue() == null) {
                report(5, field + " is static, and no constant");
            }
            boolean isPublic = field.getModifiers().contains(Modifier.PUBLIC);
            if (isPublic ? !CONSTANTS.contains(field.toString()) : !field.getModifiers().contains(Modifier.PRIVATE)) {
                report(1, field + " is seen from without");
            }
        }

        private static boolean isOwn(String type) {
            return type.equals("FreshShares") || type.startsWith("FreshShares.");
        }

        @Override
        public Void visitBlock(BlockTree tree, Void none) {
            if (tree.isStatic() || getCurrentPath().getParentPath().getLeaf() instanceof ClassTree) {
                report(5, "a block that is of no method");
            }
            return super.visitBlock(tree, none);
        }

        @Override
        public Void visitMethodInvocation(MethodInvocationTree tree, Void none) {
            called(here());
            return super.visitMethodInvocation(tree, none);
        }

        private void called(Element to) {
            if (isOwn(to.getEnclosingElement().toString())) {
                calls.get(method).add(to);
            } else if (!LIBRARY.contains(to.getEnclosingElement() + "." + to.getSimpleName())) {
                report(4, to.getEnclosingElement() + "." + to.getSimpleName());
            }
        }

        @Override
        public Void visitNewClass(NewClassTree tree, Void none) {
            called(here());
            makes(tree);
            if (tree.getClassBody() != null) {
                report(2, "a class without a name: " + tree);
            }
            return super.visitNewClass(tree, none);
        }

        @Override
        public Void visitNewArray(NewArrayTree tree, Void none) {
            makes(tree);
            if (tree.getDimensions().size() != 1) {
                report(3, tree.toString());
            }
            return super.visitNewArray(tree, none);
        }

        /** README.md says that nothing but an IMAGE is made outside of constructors. */
        private void makes(Tree tree) {
            boolean isImage = method != null && method.getSimpleName().contentEquals("image");
            if (method == null || method.getKind() != ElementKind.CONSTRUCTOR && !isImage) {
                report(12, method + " makes " + tree);
            }
        }

        @Override
        public Void visitBinary(BinaryTree tree, Void none) {
            if (tree.getKind() == Tree.Kind.DIVIDE || tree.getKind() == Tree.Kind.REMAINDER) {
                divides(tree, tree.getRightOperand());
            }
            return super.visitBinary(tree, none);
        }

        /** A divisor that is a constant other than 0 needs no look before it divides. */
        private void divides(Tree tree, ExpressionTree divisor) {
            Element named = trees.getElement(new TreePath(getCurrentPath(), divisor));
            Object value = named instanceof VariableElement ? ((VariableElement) named).getConstantValue() : null;
            if (!(value instanceof Integer) || (Integer) value == 0) {
                report(7, "a divisor that is no constant: " + tree);
            }
        }

        @Override
        public Void visitCompoundAssignment(CompoundAssignmentTree tree, Void none) {
            if (tree.getKind() == Tree.Kind.DIVIDE_ASSIGNMENT || tree.getKind() == Tree.Kind.REMAINDER_ASSIGNMENT) {
                divides(tree, tree.getExpression());
            }
            return super.visitCompoundAssignment(tree, none);
        }

        @Override
        public Void visitForLoop(ForLoopTree tree, Void none) {
            boolean counts = tree.getInitializer().size() == 1 && tree.getUpdate().size() == 1
                    && tree.getInitializer().get(0) instanceof VariableTree && tree.getCondition() != null;
            String counter = counts ? ((VariableTree) tree.getInitializer().get(0)).getName().toString() : "";
            if (!counts || !tree.getCondition().toString().matches(".*\\b" + counter + "\\b.*[<>].*")
                    || !tree.getUpdate().get(0).toString().matches("\\(?" + counter + "(\\+\\+|--)\\)?;?")) {
                report(9, "a loop whose end is not seen: for (" + tree.getCondition() + "; " + tree.getUpdate() + ")");
            }
            return super.visitForLoop(tree, none);
        }

        @Override
        public Void visitWhileLoop(WhileLoopTree tree, Void none) {
            report(9, "while, whose end this test cannot see");
            return super.visitWhileLoop(tree, none);
        }

        @Override
        public Void visitDoWhileLoop(DoWhileLoopTree tree, Void none) {
            report(9, "do, whose end this test cannot see");
            return super.visitDoWhileLoop(tree, none);
        }

        @Override
        public Void visitThrow(ThrowTree tree, Void none) {
            report(6, "throw");
            return super.visitThrow(tree, none);
        }

        @Override
        public Void visitTry(TryTree tree, Void none) {
            report(6, "try");
            return super.visitTry(tree, none);
        }

        @Override
        public Void visitSynchronized(SynchronizedTree tree, Void none) {
            report(6, "synchronized");
            return super.visitSynchronized(tree, none);
        }

        @Override
        public Void visitAssert(AssertTree tree, Void none) {
            report(6, "assert");
            return super.visitAssert(tree, none);
        }

        @Override
        public Void visitTypeCast(TypeCastTree tree, Void none) {
            report(6, "a cast, which the class has no use for: " + tree);
            return super.visitTypeCast(tree, none);
        }

        @Override
        public Void visitLambdaExpression(LambdaExpressionTree tree, Void none) {
            report(2, "a lambda");
            return super.visitLambdaExpression(tree, none);
        }

        @Override
        public Void visitMemberReference(MemberReferenceTree tree, Void none) {
            report(2, "a method reference");
            return super.visitMemberReference(tree, none);
        }
    }
}
