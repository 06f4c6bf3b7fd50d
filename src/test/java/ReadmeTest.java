import java.io.IOException;
import java.net.URL;
import java.net.URLClassLoader;
import java.nio.file.Files;
import java.nio.file.Path;
import java.util.ArrayList;
import java.util.LinkedHashMap;
import java.util.List;
import java.util.Map;
import java.util.regex.Matcher;
import java.util.regex.Pattern;
import javax.tools.ToolProvider;

/**
 * README.md tells how the class is used: its example answers what it says, and its tables name each
 * method, argument and constant of the document, the codes in the document's order.
 */
public final class ReadmeTest {
    private static final Pattern METHOD = Pattern.compile("public int (\\w+)\\(([^)]*)\\);");
    private static final Pattern CONSTANT = Pattern.compile("`(\\w+) = (-\\d)`");
    private static final Pattern CODE =
            Pattern.compile("NO_SUCH|BAD_VALUE|TOO_MANY|NOT_POSSIBLE|NONE|-100 minus the fault");
    private static final Pattern ANSWER = Pattern.compile("(?:int (\\w+) = )?(.*);\\s+// (-?\\d+)\\b.*");

    private static final Checks checks = new Checks();
    private static String readme;
    private static String document;

    private ReadmeTest() {
    }

    public static void main(String[] args) throws Exception {
        readme = Files.readString(Path.of("README.md"));
        document = Files.readString(Path.of("../shared/DOC.md"));
        lookAtMethods();
        lookAtCodes();
        lookAtTests();
        runExample();
        checks.finish();
    }

    private static void holds(String what, boolean got) {
        checks.due(what, got ? 1 : 0, 1);
    }

    private static List<String> found(Pattern pattern, String text) {
        List<String> all = new ArrayList<>();
        for (Matcher matcher = pattern.matcher(text); matcher.find();) {
            all.add(matcher.group());
        }
        return all;
    }

    /** The line of a table whose first cell is this one, empty if there is none. */
    private static String rowOf(String cell) {
        return readme.lines().filter(line -> line.startsWith("| " + cell + " |")).findFirst().orElse("");
    }

    private static void lookAtMethods() {
        int methods = 0;
        for (Matcher face = METHOD.matcher(document); face.find(); methods++) {
            String name = face.group(1);
            String arguments = face.group(2).replace("int ", "");
            String told = rowOf("`" + name + "(" + arguments + ")`");
            holds("README has a row of " + name, !told.isEmpty());
            holds("README has the codes of " + name, found(CODE, told).equals(codesOf(name)));
            for (String argument : arguments.isEmpty() ? new String[0] : arguments.split(", ")) {
                Pattern row = Pattern.compile("(?m)^\\|[^|]*`" + argument + "`[^|]*\\| ");
                holds("README has the argument " + argument, row.matcher(readme).find());
            }
        }
        checks.due("methods of the document", methods, 32);
    }

    private static List<String> codesOf(String name) {
        String section = document.substring(document.indexOf(": " + name + "\n"));
        String answers = section.substring(section.indexOf("\nReturns ") + 1);
        return found(CODE, answers.substring(0, answers.indexOf("\n")));
    }

    private static void lookAtCodes() {
        int codes = 0;
        for (Matcher constant = CONSTANT.matcher(document); constant.find(); codes++) {
            String cell = "`" + constant.group(1) + "`";
            holds("README tells " + cell, rowOf(cell).startsWith("| " + cell + " | " + constant.group(2) + " | "));
        }
        checks.due("codes of the document", codes, 5);
        for (String constant : new String[] {"`ROOT` (12)", "`MEMORY` (0)", "`PORTS` (1)"}) {
            holds("README tells " + constant, readme.contains(constant));
        }
    }

    private static void lookAtTests() throws IOException {
        try (var files = Files.list(Path.of("src/test/java"))) {
            for (Path file : files.filter(path -> path.toString().endsWith("Test.java")).toList()) {
                String test = file.getFileName().toString().replace(".java", "");
                holds("README tells " + test, !rowOf(test).isEmpty());
            }
        }
        holds("README tells how the tests are run", readme.contains("\n.ci/run\n"));
    }

    /** The example as a program of its own, which notes what each line with a number answers. */
    private static void runExample() throws Exception {
        int from = readme.indexOf("```java\n") + 8;
        StringBuilder program = new StringBuilder("public final class Example {\n"
                + "    public static void run(java.util.List<Integer> answers) {\n");
        Map<String, Integer> due = new LinkedHashMap<>();
        for (String line : readme.substring(from, readme.indexOf("\n```", from)).split("\n")) {
            Matcher answer = ANSWER.matcher(line);
            if (answer.matches()) {
                boolean isNamed = answer.group(1) != null;
                due.put((due.size() + 1) + ": " + line, Integer.parseInt(answer.group(3)));
                program.append(isNamed ? "int " + answer.group(1) + " = " + answer.group(2) + ";\n" : "");
                program.append("answers.add(").append(isNamed ? answer.group(1) : answer.group(2)).append(");\n");
            } else {
                program.append(line).append("\n");
            }
        }
        List<Integer> answers = answersOf(program.append("    }\n}\n").toString());
        checks.due("answers of the example", answers.size(), due.size());
        int at = 0;
        for (String line : due.keySet()) {
            checks.due("README's example, line " + line, at < answers.size() ? answers.get(at) : 0, due.get(line));
            at++;
        }
        holds("the example has answers", due.size() > 10);
    }

    private static List<Integer> answersOf(String program) throws Exception {
        List<Integer> answers = new ArrayList<>();
        Path place = Files.createTempDirectory("readme");
        Path source = place.resolve("Example.java");
        Path compiled = place.resolve("Example.class");
        Files.writeString(source, program);
        int refused = ToolProvider.getSystemJavaCompiler().run(null, null, null, "-d", place.toString(),
                "-cp", System.getProperty("java.class.path"), source.toString());
        checks.due("README's example compiles", refused, 0);
        if (refused == 0) {
            try (URLClassLoader loader = new URLClassLoader(new URL[] {place.toUri().toURL()})) {
                loader.loadClass("Example").getMethod("run", List.class).invoke(null, answers);
            }
        }
        Files.deleteIfExists(compiled);
        Files.deleteIfExists(source);
        Files.deleteIfExists(place);
        return answers;
    }
}
