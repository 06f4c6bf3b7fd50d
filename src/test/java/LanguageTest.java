import com.sun.source.tree.ClassTree;
import com.sun.source.tree.CompilationUnitTree;
import com.sun.source.tree.ImportTree;
import com.sun.source.tree.MethodInvocationTree;
import com.sun.source.tree.MethodTree;
import com.sun.source.tree.NewClassTree;
import com.sun.source.tree.Tree;
import com.sun.source.tree.VariableTree;
import com.sun.source.util.JavacTask;
import com.sun.source.util.TreePathScanner;
import com.sun.source.util.Trees;
import java.io.File;
import java.util.ArrayList;
import java.util.HashSet;
import java.util.LinkedHashMap;
import java.util.List;
import java.util.Map;
import java.util.Set;
import java.util.TreeSet;
import javax.lang.model.element.Element;
import javax.lang.model.element.Modifier;
import javax.lang.model.element.TypeElement;
import javax.tools.JavaCompiler;
import javax.tools.StandardJavaFileManager;
import javax.tools.ToolProvider;

/** What of ../shared/LANGUAGE.md can be read off the source; each fault begins with the rule's number. */
public final class LanguageTest {
    private static final Set<Tree.Kind> FORBIDDEN = Set.of(Tree.Kind.THROW, Tree.Kind.TRY, Tree.Kind.CATCH,
            Tree.Kind.SYNCHRONIZED, Tree.Kind.ASSERT);
    private static final Set<Tree.Kind> NO_CLASSES = Set.of(Tree.Kind.LAMBDA_EXPRESSION, Tree.Kind.MEMBER_REFERENCE);
    private static final Set<String> IMPORTS = Set.of("java.util.Arrays", "java.util.ArrayList", "java.util.List",
            "java.util.Iterator");
    private static final String LIBRARY = "java\\.lang\\.Math\\.\\w+(?<!Exact)"
            + "|java\\.lang\\.(Integer|Long)\\.(?!parse|decode|valueOf|to|get)\\w+"
            + "|java\\.lang\\.String\\.(length|charAt|isEmpty|equals|indexOf|substring|toCharArray)"
            + "|java\\.lang\\.(Abstract)?StringBuilder\\.(append|charAt|setCharAt|setLength|deleteCharAt|reverse)"
            + "|java\\.lang\\.(Abstract)?StringBuilder\\.(length|toString)"
            + "|java\\.util\\.(ArrayList|List)\\.(add|get|set|remove|size|isEmpty|clear|of)"
            + "|java\\.util\\.Iterator\\.(hasNext|next)|java\\.lang\\.(Comparable\\.compareTo|Iterable\\.iterator)"
            + "|java\\.lang\\.System\\.arraycopy|java\\.util\\.Arrays\\.(copyOf|copyOfRange|fill)"
            + "|Array\\.clone|java\\.lang\\.(Object\\.<init>|Enum\\.ordinal|Record\\.<init>|Enum\\.<init>)";
    private static final String MADE = "java\\.lang\\.(String|StringBuilder)|java\\.util\\.ArrayList";
    private static final int CALLS_DEEP = 8, CLASSES = 12, FIELDS = 20, LINES = 60, PARAMETERS = 7;

    private final List<String> faults = new ArrayList<>();
    private final Map<String, Set<String>> calls = new LinkedHashMap<>();
    private final Set<String> publicMethods = new TreeSet<>();
    private final Set<String> otherNames = new TreeSet<>();
    private final Set<String> publicNames = new TreeSet<>();
    private Trees trees;
    private int classes = 0;
    private int deepestOfAll = 0;

    public static void main(String[] args) throws Exception {
        LanguageTest test = new LanguageTest();
        JavaCompiler compiler = ToolProvider.getSystemJavaCompiler();
        try (StandardJavaFileManager files = compiler.getStandardFileManager(null, null, null)) {
            JavacTask task = (JavacTask) compiler.getTask(null, files, null, null, null,
                    files.getJavaFileObjects(new File("src/main/java/BusRack.java")));
            test.trees = Trees.instance(task);
            Iterable<? extends CompilationUnitTree> units = task.parse();
            task.analyze();
            for (CompilationUnitTree unit : units) {
                test.look(unit);
            }
        }
        test.finish();
    }

    private void finish() {
        for (String method : publicMethods) {
            int deep = deepest(method, new HashSet<>());
            deepestOfAll = Math.max(deepestOfAll, deep);
            check(deep <= CALLS_DEEP, "11: " + method + " calls " + deep + " deep");
        }
        for (String name : publicNames) {
            check(!otherNames.contains(name), "1: a private method bears the name of " + name);
        }
        check(classes <= CLASSES, "11: " + classes + " classes");
        faults.forEach(System.out::println);
        System.out.println(calls.size() + " methods, calls " + deepestOfAll + " deep at most, "
                + faults.size() + " faults");
        if (!faults.isEmpty() || calls.isEmpty()) {
            System.exit(1);
        }
    }

    private void check(boolean holds, String fault) {
        if (!holds) {
            faults.add(fault);
        }
    }

    /** A method that stands open already is counted once: recursion has limits of its own. */
    private int deepest(String method, Set<String> open) {
        if (!calls.containsKey(method) || !open.add(method)) {
            return 0;
        }
        int below = 0;
        for (String called : calls.get(method)) {
            below = Math.max(below, deepest(called, open));
        }
        open.remove(method);
        return below + 1;
    }

    private static String nameOf(Element method) {
        Element owner = method.getEnclosingElement();
        String type = owner instanceof TypeElement named ? named.getQualifiedName().toString() : owner.toString();
        return type + "." + method.getSimpleName();
    }

    private static boolean isOwn(String name) {
        return name.matches("BusRack\\b.*");
    }

    private void look(CompilationUnitTree unit) {
        check(unit.getPackageName() == null, "0: a package line");
        new TreePathScanner<Void, String>() {
            @Override
            public Void scan(Tree tree, String method) {
                check(tree == null || !FORBIDDEN.contains(tree.getKind()), "6: something forbidden in " + method);
                check(tree == null || !NO_CLASSES.contains(tree.getKind()), "2: a lambda in " + method);
                return super.scan(tree, method);
            }

            @Override
            public Void visitImport(ImportTree tree, String method) {
                String name = tree.getQualifiedIdentifier().toString();
                check(IMPORTS.contains(name), "4: import of " + name);
                return null;
            }

            @Override
            public Void visitClass(ClassTree tree, String method) {
                classes++;
                lookAtClass(tree, classes == 1);
                return super.visitClass(tree, method);
            }

            @Override
            public Void visitMethod(MethodTree tree, String method) {
                String name = nameOf(trees.getElement(getCurrentPath()));
                check(tree.getParameters().size() <= PARAMETERS, "11: " + name + " has too many parameters");
                check(tree.toString().lines().count() <= LINES, "11: " + name + " is long");
                calls.computeIfAbsent(name, none -> new TreeSet<>());
                noteName(tree, name);
                return super.visitMethod(tree, name);
            }

            @Override
            public Void visitMethodInvocation(MethodInvocationTree tree, String method) {
                String called = nameOf(trees.getElement(getCurrentPath()));
                calls.computeIfAbsent(method, none -> new TreeSet<>()).add(called);
                check(isOwn(called) || called.matches(LIBRARY), "4: " + called + " in " + method);
                return super.visitMethodInvocation(tree, method);
            }

            @Override
            public Void visitNewClass(NewClassTree tree, String method) {
                String called = nameOf(trees.getElement(getCurrentPath()));
                String type = called.substring(0, called.lastIndexOf(".<init>"));
                calls.computeIfAbsent(method, none -> new TreeSet<>()).add(called);
                check(isOwn(called) || type.matches(MADE), "4: new " + type + " in " + method);
                check(tree.getClassBody() == null, "2: an anonymous class in " + method);
                return super.visitNewClass(tree, method);
            }
        }.scan(unit, "BusRack.<init>");
    }

    private void lookAtClass(ClassTree tree, boolean isFace) {
        String name = tree.getSimpleName().toString();
        Set<Modifier> flags = tree.getModifiers().getFlags();
        boolean isClass = tree.getKind() == Tree.Kind.CLASS;
        check(!isFace || flags.contains(Modifier.PUBLIC) && flags.contains(Modifier.FINAL), "1: " + name);
        check(isFace || !isClass || flags.contains(Modifier.STATIC), "2: " + name + " is an inner class");
        check(isFace || !flags.contains(Modifier.PUBLIC) && !flags.contains(Modifier.PROTECTED), "1: " + name);
        int fields = 0;
        for (Tree member : tree.getMembers()) {
            if (member instanceof VariableTree field) {
                Set<Modifier> of = field.getModifiers().getFlags();
                fields += of.contains(Modifier.STATIC) ? 0 : 1;
                boolean isFinal = !of.contains(Modifier.STATIC) || of.contains(Modifier.FINAL);
                check(isFinal, "5: " + field.getName() + " is not final");
                check(!isFace || hasAccess(of), "1: " + field.getName() + " is package-visible");
            }
        }
        check(fields <= FIELDS, "11: " + name + " has " + fields + " fields");
    }

    private static boolean hasAccess(Set<Modifier> flags) {
        return flags.contains(Modifier.PUBLIC) || flags.contains(Modifier.PRIVATE);
    }

    private void noteName(MethodTree method, String name) {
        String simple = method.getName().toString();
        Set<Modifier> flags = method.getModifiers().getFlags();
        boolean isFace = name.equals("BusRack." + simple);
        check(!isFace || hasAccess(flags) || simple.equals("<init>"), "1: " + name + " is package-visible");
        if (isFace && flags.contains(Modifier.PUBLIC) && !simple.equals("<init>")) {
            publicMethods.add(name);
            publicNames.add(simple);
        }
        if (flags.contains(Modifier.PRIVATE)) {
            otherNames.add(simple);
        }
    }
}
