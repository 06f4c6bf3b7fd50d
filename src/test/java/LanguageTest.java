import com.sun.source.tree.BinaryTree;
import com.sun.source.tree.ClassTree;
import com.sun.source.tree.CompilationUnitTree;
import com.sun.source.tree.ExpressionTree;
import com.sun.source.tree.IdentifierTree;
import com.sun.source.tree.ImportTree;
import com.sun.source.tree.MemberSelectTree;
import com.sun.source.tree.MethodInvocationTree;
import com.sun.source.tree.MethodTree;
import com.sun.source.tree.ModifiersTree;
import com.sun.source.tree.NewClassTree;
import com.sun.source.tree.Tree;
import com.sun.source.tree.TypeCastTree;
import com.sun.source.tree.VariableTree;
import com.sun.source.util.JavacTask;
import com.sun.source.util.TreeScanner;
import java.io.File;
import java.util.ArrayList;
import java.util.HashSet;
import java.util.LinkedHashMap;
import java.util.List;
import java.util.Map;
import java.util.Set;
import java.util.TreeSet;
import javax.lang.model.element.Modifier;
import javax.tools.JavaCompiler;
import javax.tools.StandardJavaFileManager;
import javax.tools.ToolProvider;

/** What of ../shared/LANGUAGE.md can be read off the source. Calls are followed by their names alone. */
public final class LanguageTest {
    private static final Set<Tree.Kind> FORBIDDEN = Set.of(Tree.Kind.THROW, Tree.Kind.TRY, Tree.Kind.CATCH,
            Tree.Kind.SYNCHRONIZED, Tree.Kind.ASSERT, Tree.Kind.LAMBDA_EXPRESSION, Tree.Kind.MEMBER_REFERENCE,
            Tree.Kind.STRING_LITERAL, Tree.Kind.NULL_LITERAL, Tree.Kind.INSTANCE_OF);
    private static final Set<String> LIBRARY = Set.of("Arrays.fill", "System.arraycopy", "Math.min", "Math.max",
            "Integer.bitCount", "java.util", "java.util.Arrays");
    private static final int CALLS_DEEP = 8, CLASSES = 12, FIELDS = 20, LINES = 60, PARAMETERS = 7;

    private final List<String> faults = new ArrayList<>();
    private final Map<String, Set<String>> calls = new LinkedHashMap<>();
    private final Set<String> publicMethods = new TreeSet<>();
    private final Set<String> privateMethods = new TreeSet<>();
    private int classes = 0;
    private int deepestOfAll = 0;

    public static void main(String[] args) throws Exception {
        LanguageTest test = new LanguageTest();
        JavaCompiler compiler = ToolProvider.getSystemJavaCompiler();
        try (StandardJavaFileManager files = compiler.getStandardFileManager(null, null, null)) {
            JavacTask task = (JavacTask) compiler.getTask(null, files, null, null, null,
                    files.getJavaFileObjects(new File("src/main/java/BusRack.java")));
            for (CompilationUnitTree unit : task.parse()) {
                test.look(unit);
            }
        }
        test.finish();
    }

    private void finish() {
        for (String method : publicMethods) {
            int deep = deepest(method, new HashSet<>());
            deepestOfAll = Math.max(deepestOfAll, deep);
            check(deep <= CALLS_DEEP, method + " calls " + deep + " deep");
            check(!privateMethods.contains(method), "a private method bears the name of " + method);
        }
        check(publicMethods.size() == 32, "the face has " + publicMethods.size() + " methods");
        check(classes <= CLASSES, classes + " classes");
        for (String method : calls.keySet()) {
            boolean isUsed = calls.values().stream().anyMatch(called -> called.contains(method));
            check(isUsed || publicMethods.contains(method) || method.equals("BusRack"), method + " is not used");
        }
        faults.forEach(System.out::println);
        System.out.println(calls.size() + " methods, calls " + deepestOfAll + " deep at most, " + faults.size() + " faults");
        if (!faults.isEmpty() || calls.isEmpty()) {
            System.exit(1);
        }
    }

    private void check(boolean holds, String fault) {
        if (!holds) {
            faults.add(fault);
        }
    }

    /** A method that stands open already is counted once: recursion has limits of its own. */
    private int deepest(String method, Set<String> open) {
        if (!calls.containsKey(method) || !open.add(method)) {
            return 0;
        }
        int below = 0;
        for (String called : calls.get(method)) {
            below = Math.max(below, deepest(called, open));
        }
        open.remove(method);
        return below + 1;
    }

    private void look(CompilationUnitTree unit) {
        new TreeScanner<Void, String>() {
            @Override
            public Void scan(Tree tree, String method) {
                if (tree != null && !(tree.getKind() == Tree.Kind.NULL_LITERAL && isNullTest(method))) {
                    check(!FORBIDDEN.contains(tree.getKind()), tree.getKind() + " in " + method);
                }
                return super.scan(tree, method);
            }

            @Override
            public Void visitImport(ImportTree tree, String method) {
                String name = tree.getQualifiedIdentifier().toString();
                check(name.equals("java.util.Arrays"), "import of " + name);
                return super.visitImport(tree, method);
            }

            @Override
            public Void visitClass(ClassTree tree, String method) {
                classes++;
                lookAtClass(tree, classes == 1);
                return super.visitClass(tree, tree.getSimpleName().toString());
            }

            @Override
            public Void visitMethod(MethodTree tree, String owner) {
                String name = tree.getName().toString();
                check(tree.getParameters().size() <= PARAMETERS, name + " has too many parameters");
                check(tree.toString().lines().count() <= LINES, name + " is long");
                String key = name.equals("<init>") ? owner : name;
                calls.computeIfAbsent(key, none -> new TreeSet<>());
                return super.visitMethod(tree, key);
            }

            @Override
            public Void visitMethodInvocation(MethodInvocationTree tree, String method) {
                ExpressionTree select = tree.getMethodSelect();
                String called = select instanceof MemberSelectTree part ? part.getIdentifier().toString()
                        : ((IdentifierTree) select).getName().toString();
                calls.computeIfAbsent(method, none -> new TreeSet<>()).add(called);
                return super.visitMethodInvocation(tree, method);
            }

            @Override
            public Void visitNewClass(NewClassTree tree, String method) {
                calls.computeIfAbsent(method, none -> new TreeSet<>()).add(tree.getIdentifier().toString());
                check(tree.getClassBody() == null, "an anonymous class in " + method);
                return super.visitNewClass(tree, method);
            }

            @Override
            public Void visitMemberSelect(MemberSelectTree tree, String method) {
                String name = tree.toString();
                boolean isLibrary = name.matches("(java|System|Math|Integer|Long|String|Arrays)\\b.*");
                check(!isLibrary || LIBRARY.contains(name), name + " in " + method);
                return super.visitMemberSelect(tree, method);
            }

            @Override
            public Void visitTypeCast(TypeCastTree tree, String method) {
                check(tree.getType().getKind() == Tree.Kind.PRIMITIVE_TYPE, tree + " in " + method);
                return super.visitTypeCast(tree, method);
            }

            @Override
            public Void visitBinary(BinaryTree tree, String method) {
                boolean divides = tree.getKind() == Tree.Kind.DIVIDE || tree.getKind() == Tree.Kind.REMAINDER;
                check(!divides || tree.getRightOperand().toString().equals("REGIONS"), "a divisor in " + method);
                return super.visitBinary(tree, method);
            }
        }.scan(unit, "");
    }

    /** The history alone holds references that it tests against null. */
    private static boolean isNullTest(String method) {
        return method.equals("record") || method.equals("takeLatestInto");
    }

    private void lookAtClass(ClassTree tree, boolean isFace) {
        String name = tree.getSimpleName().toString();
        Set<Modifier> flags = tree.getModifiers().getFlags();
        check(flags.contains(Modifier.FINAL), name + " is not final");
        check(flags.contains(isFace ? Modifier.PUBLIC : Modifier.STATIC), name + " is an inner class");
        int fields = 0;
        for (Tree member : tree.getMembers()) {
            if (member instanceof VariableTree field) {
                Set<Modifier> of = field.getModifiers().getFlags();
                fields += of.contains(Modifier.STATIC) ? 0 : 1;
                check(!of.contains(Modifier.STATIC) || of.contains(Modifier.FINAL), field + " is not final");
                check(!isFace || hasAccess(field.getModifiers()), field.getName() + " is package-visible");
            }
            if (member instanceof MethodTree method) {
                check(!isFace || hasAccess(method.getModifiers()), method.getName() + " is package-visible");
                noteName(method, isFace);
            }
        }
        check(fields <= FIELDS, name + " has " + fields + " fields");
    }

    private static boolean hasAccess(ModifiersTree modifiers) {
        return modifiers.getFlags().contains(Modifier.PUBLIC) || modifiers.getFlags().contains(Modifier.PRIVATE);
    }

    private void noteName(MethodTree method, boolean isFace) {
        String name = method.getName().toString();
        boolean isPublic = method.getModifiers().getFlags().contains(Modifier.PUBLIC);
        check(isFace || !isPublic, name + " is public in a class inside");
        if (isPublic && !name.equals("<init>")) {
            publicMethods.add(name);
        }
        if (!isPublic) {
            privateMethods.add(name);
        }
    }
}
