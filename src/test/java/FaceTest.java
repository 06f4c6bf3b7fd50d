import java.io.IOException;
import java.lang.reflect.Constructor;
import java.lang.reflect.Field;
import java.lang.reflect.Method;
import java.lang.reflect.Modifier;
import java.nio.file.Files;
import java.nio.file.Path;
import java.util.Set;
import java.util.TreeSet;

/** The face of the class is the one that the document writes under "The public face", no less and no more. */
public final class FaceTest {
    private static final Checks checks = new Checks();

    private FaceTest() {
    }

    public static void main(String[] args) throws IOException, IllegalAccessException {
        Set<String> face = new TreeSet<>();
        Set<String> due = new TreeSet<>();
        addMembers(face);
        String document = Files.readString(Path.of("../shared/DOC.md"));
        int from = document.indexOf("public final class BusRack {");
        addLines(due, document.substring(from, document.indexOf("\n}", from)));
        for (String member : due) {
            checks.due("the face has " + member, face.contains(member) ? 1 : 0, 1);
        }
        for (String member : face) {
            checks.due("the document has " + member, due.contains(member) ? 1 : 0, 1);
        }
        int flags = BusRack.class.getModifiers();
        checks.due("public and final", Modifier.isPublic(flags) && Modifier.isFinal(flags) ? 1 : 0, 1);
        checks.due("members", due.size(), 41);
        checks.finish();
    }

    /** What anybody but the class itself could use. */
    private static void addMembers(Set<String> face) throws IllegalAccessException {
        for (Field field : BusRack.class.getDeclaredFields()) {
            if (!Modifier.isPrivate(field.getModifiers()) && !field.isSynthetic()) {
                face.add(Modifier.toString(field.getModifiers()) + " " + field.getType() + " " + field.getName()
                        + " = " + field.get(null));
            }
        }
        for (Method method : BusRack.class.getDeclaredMethods()) {
            if (!Modifier.isPrivate(method.getModifiers()) && !method.isSynthetic()) {
                face.add(Modifier.toString(method.getModifiers()) + " " + method.getReturnType() + " "
                        + method.getName() + " of " + method.getParameterCount());
                checks.due(method.getName() + " takes int alone", isOfInts(method.getParameterTypes()) ? 1 : 0, 1);
            }
        }
        for (Constructor<?> made : BusRack.class.getDeclaredConstructors()) {
            if (!Modifier.isPrivate(made.getModifiers()) && !made.isSynthetic()) {
                face.add(Modifier.toString(made.getModifiers()) + " BusRack of " + made.getParameterCount());
            }
        }
    }

    private static boolean isOfInts(Class<?>[] types) {
        boolean isOfInts = true;
        for (Class<?> type : types) {
            isOfInts &= type == int.class;
        }
        return isOfInts;
    }

    private static void addLines(Set<String> due, String text) {
        for (String line : text.substring(text.indexOf('\n')).split(";")) {
            String member = line.strip();
            if (member.contains("=")) {
                for (String constant : member.substring("public static final int ".length()).split(", ")) {
                    due.add("public static final int " + constant);
                }
            } else if (!member.isEmpty()) {
                int open = member.indexOf('(');
                String inside = member.substring(open + 1, member.indexOf(')'));
                int count = inside.isEmpty() ? 0 : inside.split(",").length;
                due.add(member.substring(0, open) + " of " + count);
            }
        }
    }
}
