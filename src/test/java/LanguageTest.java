import com.sun.source.tree.AssertTree;
import com.sun.source.tree.BinaryTree;
import com.sun.source.tree.ClassTree;
import com.sun.source.tree.CompilationUnitTree;
import com.sun.source.tree.DoWhileLoopTree;
import com.sun.source.tree.EnhancedForLoopTree;
import com.sun.source.tree.ExpressionTree;
import com.sun.source.tree.IdentifierTree;
import com.sun.source.tree.ImportTree;
import com.sun.source.tree.InstanceOfTree;
import com.sun.source.tree.LambdaExpressionTree;
import com.sun.source.tree.LiteralTree;
import com.sun.source.tree.MemberReferenceTree;
import com.sun.source.tree.MemberSelectTree;
import com.sun.source.tree.MethodInvocationTree;
import com.sun.source.tree.MethodTree;
import com.sun.source.tree.NewArrayTree;
import com.sun.source.tree.NewClassTree;
import com.sun.source.tree.SynchronizedTree;
import com.sun.source.tree.ThrowTree;
import com.sun.source.tree.Tree;
import com.sun.source.tree.TryTree;
import com.sun.source.tree.TypeCastTree;
import com.sun.source.tree.VariableTree;
import com.sun.source.tree.WhileLoopTree;
import com.sun.source.util.JavacTask;
import com.sun.source.util.TreeScanner;
import java.io.IOException;
import java.nio.file.Files;
import java.nio.file.Path;
import java.util.ArrayList;
import java.util.HashMap;
import java.util.List;
import java.util.Map;
import java.util.Set;
import java.util.TreeSet;
import javax.lang.model.element.Modifier;
import javax.tools.JavaCompiler;
import javax.tools.StandardJavaFileManager;
import javax.tools.ToolProvider;

/**
 * The program keeps to ../shared/LANGUAGE.md, as far as it can be read from its text. The test is stricter than the
 * rules where the program does without what they allow: no try, no while, no lists, no recursion.
 */
final class LanguageTest extends TreeScanner<Void, String> {
    private static final Path PROGRAM = Path.of("src/main/java/KnightPairChess.java");
    private static final Set<String> IMPORTS = Set.of("java.util.Arrays", "java.util.NoSuchElementException");
    private static final Set<String> LIBRARY = Set.of("Math.max", "Math.min", "Math.abs", "Long.bitCount",
            "Arrays.fill", "System.arraycopy");
    private static final Set<String> EXCEPTIONS = Set.of("IllegalStateException", "IllegalArgumentException",
            "IndexOutOfBoundsException", "ArithmeticException", "UnsupportedOperationException",
            "NoSuchElementException", "RuntimeException");
    private static final Set<String> CONSTANT_TYPES = Set.of("int", "long", "boolean", "char", "String", "int[]",
            "long[]", "char[]", "byte[]");
    private static final Set<String> TYPES = Set.of("int", "long", "boolean", "float", "double", "int[]", "long[]",
            "Page", "Position", "Reach");

    private final Map<String, Set<String>> calls = new HashMap<>();
    private final List<String> classes = new ArrayList<>();

    public static void main(String[] args) throws IOException {
        LanguageTest test = new LanguageTest();
        JavaCompiler compiler = ToolProvider.getSystemJavaCompiler();
        try (StandardJavaFileManager files = compiler.getStandardFileManager(null, null, null)) {
            JavacTask task = (JavacTask) compiler.getTask(null, files, null, null, null,
                    files.getJavaFileObjects(PROGRAM));
            for (CompilationUnitTree unit : task.parse()) {
                test.look(unit);
            }
        }
        test.looks(Files.readString(PROGRAM));
        test.depths();
        Check.finish();
    }

    private void look(CompilationUnitTree unit) {
        Check.same("1: no package line", null, unit.getPackage());
        Check.is("1: one class", 1, unit.getTypeDecls().size());
        for (ImportTree line : unit.getImports()) {
            String name = line.getQualifiedIdentifier().toString();
            Check.yes("4: import of " + name, IMPORTS.contains(name) && !line.isStatic());
        }
        scan(unit.getTypeDecls(), "");
        Check.yes("11: at most twelve classes", classes.size() <= 12);
    }

    private void looks(String text) {
        for (char sign : text.toCharArray()) {
            Check.yes("4: signs 1 to 127", sign > 0 && sign < 128);
        }
        for (String word : "synchronized assert finally instanceof native volatile transient".split(" ")) {
            Check.no("6: no " + word, text.matches("(?s).*\\b" + word + "\\b.*"));
        }
        for (String word : ".getClass .hashCode .equals .toString Exact( System.out currentTime nanoTime".split(" ")) {
            Check.no("4, 13: no " + word, text.contains(word));
        }
    }

    // ---- Classes and members

    @Override
    public Void visitClass(ClassTree tree, String outer) {
        String name = tree.getSimpleName().toString();
        Set<Modifier> modifiers = tree.getModifiers().getFlags();
        classes.add(name);
        if (outer.isEmpty()) {
            Check.yes("1: public and final", modifiers.equals(Set.of(Modifier.PUBLIC, Modifier.FINAL)));
        } else {
            Check.yes("1: private and static: " + name,
                    modifiers.contains(Modifier.PRIVATE) && modifiers.contains(Modifier.STATIC));
        }
        Check.is("2: a class: " + name, Tree.Kind.CLASS.ordinal(), tree.getKind().ordinal());
        Set<String> open = new TreeSet<>();
        Set<String> hidden = new TreeSet<>();
        int fields = 0;
        for (Tree member : tree.getMembers()) {
            Check.no("5: no initialiser block in " + name, member.getKind() == Tree.Kind.BLOCK);
            if (member instanceof VariableTree field) {
                fields += field(field, outer.isEmpty()) ? 1 : 0;
            } else if (member instanceof MethodTree method) {
                boolean isPublic = method.getModifiers().getFlags().contains(Modifier.PUBLIC);
                boolean isPrivate = method.getModifiers().getFlags().contains(Modifier.PRIVATE);
                Check.yes("1: public or private: " + method.getName(), !outer.isEmpty() || isPublic || isPrivate);
                (isPublic ? open : hidden).add(method.getName().toString());
            }
        }
        Check.yes("11: some twenty fields in " + name, fields <= 20);
        hidden.remove("<init>");
        hidden.retainAll(open);
        Check.same("1: private methods with the name of a public one", Set.of(), hidden);
        return super.visitClass(tree, name);
    }

    private static boolean field(VariableTree field, boolean ofFace) {
        Set<Modifier> modifiers = field.getModifiers().getFlags();
        String type = field.getType().toString();
        boolean isStatic = modifiers.contains(Modifier.STATIC);
        if (isStatic) {
            Check.yes("5: final: " + field.getName(), modifiers.contains(Modifier.FINAL));
            Check.yes("5: " + type + " " + field.getName(), CONSTANT_TYPES.contains(type));
            boolean written = !type.endsWith("[]") || field.getInitializer() instanceof NewArrayTree;
            Check.yes("5: written out: " + field.getName(), written);
        } else {
            Check.yes("1: private: " + field.getName(), !ofFace || modifiers.contains(Modifier.PRIVATE));
        }
        return !isStatic;
    }

    @Override
    public Void visitMethod(MethodTree tree, String owner) {
        String name = tree.getName().toString();
        String full = owner + "." + name;
        Check.no("11: two methods named " + full, calls.containsKey(full));
        calls.put(full, new TreeSet<>());
        Check.yes("11: at most seven parameters: " + full, tree.getParameters().size() <= 7);
        long lines = tree.toString().lines().count();
        Check.yes("11: some sixty lines: " + full + " has " + lines, lines <= 60);
        boolean reserved = Set.of("equals", "hashCode", "toString").contains(name);
        Check.no("6: none of its own: " + full, reserved);
        return super.visitMethod(tree, full);
    }

    @Override
    public Void visitVariable(VariableTree tree, String owner) {
        String type = tree.getType().toString();
        Check.yes("3: " + type + " " + tree.getName(), TYPES.contains(type) || CONSTANT_TYPES.contains(type));
        return super.visitVariable(tree, owner);
    }

    // ---- Calls

    @Override
    public Void visitMethodInvocation(MethodInvocationTree tree, String owner) {
        ExpressionTree called = tree.getMethodSelect();
        boolean ofLibrary = called instanceof MemberSelectTree && LIBRARY.contains(called.toString());
        if (!ofLibrary) {
            String name = called instanceof MemberSelectTree select ? select.getIdentifier().toString()
                    : called.toString();
            calls.get(owner).add(name);
        }
        return super.visitMethodInvocation(tree, owner);
    }

    @Override
    public Void visitNewClass(NewClassTree tree, String owner) {
        String made = tree.getIdentifier().toString();
        Check.yes("4: new " + made + " in " + owner, TYPES.contains(made) || EXCEPTIONS.contains(made));
        Check.same("2: no class without a name", null, tree.getClassBody());
        if (!EXCEPTIONS.contains(made)) {
            calls.get(owner).add(made + ".<init>");
        }
        return super.visitNewClass(tree, owner);
    }

    /** Each call by its name; what calls itself, or by others, would go on for ever. */
    private void depths() {
        for (String name : calls.keySet()) {
            int deep = depth(name, 1);
            Check.yes("11: calls go at most eight deep: " + name + ", " + deep, deep <= 8);
        }
    }

    private int depth(String name, int open) {
        if (open > 20) {
            Check.yes("8: no recursion at " + name, false);
            return open;
        }
        int deepest = open;
        for (String called : calls.get(name)) {
            int known = 0;
            for (String other : calls.keySet()) {
                if (other.equals(called) || other.endsWith("." + called)) {
                    known++;
                    deepest = Math.max(deepest, depth(other, open + 1));
                }
            }
            Check.yes("4: " + name + " calls " + called, known == 1);
        }
        return deepest;
    }

    // ---- Exceptions

    @Override
    public Void visitThrow(ThrowTree tree, String owner) {
        boolean isNew = tree.getExpression() instanceof NewClassTree;
        Check.yes("6: throw new in " + owner, isNew);
        Check.no("6: no throw in a constructor", owner.endsWith("<init>"));
        if (tree.getExpression() instanceof NewClassTree made) {
            Check.yes("6: " + made.getIdentifier(), EXCEPTIONS.contains(made.getIdentifier().toString()));
            boolean written = made.getArguments().isEmpty()
                    || made.getArguments().size() == 1 && made.getArguments().get(0) instanceof LiteralTree;
            Check.yes("6: a written text in " + owner, written);
        }
        return super.visitThrow(tree, owner);
    }

    private static Void never(String rule, Tree tree, String owner) {
        Check.same(rule + " in " + owner, "none", tree.toString());
        return null;
    }

    @Override
    public Void visitTry(TryTree tree, String owner) {
        return never("6: try", tree, owner);
    }

    @Override
    public Void visitLambdaExpression(LambdaExpressionTree tree, String owner) {
        return never("2: a lambda", tree, owner);
    }

    @Override
    public Void visitMemberReference(MemberReferenceTree tree, String owner) {
        return never("2: a method reference", tree, owner);
    }

    @Override
    public Void visitSynchronized(SynchronizedTree tree, String owner) {
        return never("6: synchronized", tree, owner);
    }

    @Override
    public Void visitAssert(AssertTree tree, String owner) {
        return never("6: assert", tree, owner);
    }

    @Override
    public Void visitInstanceOf(InstanceOfTree tree, String owner) {
        return never("6: instanceof", tree, owner);
    }

    @Override
    public Void visitWhileLoop(WhileLoopTree tree, String owner) {
        return never("9: while", tree, owner);
    }

    @Override
    public Void visitDoWhileLoop(DoWhileLoopTree tree, String owner) {
        return never("9: do", tree, owner);
    }

    @Override
    public Void visitEnhancedForLoop(EnhancedForLoopTree tree, String owner) {
        return never("12: for over a list", tree, owner);
    }

    // ---- Arithmetic

    /** Casts are among numbers alone, so that none can fail. */
    @Override
    public Void visitTypeCast(TypeCastTree tree, String owner) {
        String type = tree.getType().toString();
        Check.yes("6: a cast in " + owner, Set.of("int", "long", "float", "double").contains(type));
        return super.visitTypeCast(tree, owner);
    }

    @Override
    public Void visitBinary(BinaryTree tree, String owner) {
        boolean divides = tree.getKind() == Tree.Kind.DIVIDE || tree.getKind() == Tree.Kind.REMAINDER;
        if (divides) {
            boolean written = tree.getRightOperand() instanceof LiteralTree literal
                    && ((Number) literal.getValue()).doubleValue() != 0.0;
            Check.yes("7: a divisor that is written and not 0, in " + owner, written);
        }
        Check.no("10: no joining of texts by +, in " + owner, isText(tree.getLeftOperand())
                || isText(tree.getRightOperand()));
        return super.visitBinary(tree, owner);
    }

    private static boolean isText(ExpressionTree tree) {
        return tree instanceof LiteralTree literal && literal.getValue() instanceof String;
    }

    @Override
    public Void visitIdentifier(IdentifierTree tree, String owner) {
        boolean unsafe = Set.of("Runtime", "Thread", "Object", "Class").contains(tree.getName().toString());
        Check.no("13: no " + tree.getName(), unsafe);
        return super.visitIdentifier(tree, owner);
    }
}
