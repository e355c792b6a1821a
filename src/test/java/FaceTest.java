import java.lang.reflect.Constructor;
import java.lang.reflect.Method;
import java.lang.reflect.Modifier;
import java.util.Arrays;
import java.util.Set;
import java.util.TreeSet;

/** The public face of the document: just these members, with just these declared exceptions. */
public final class FaceTest {
    private static final String A = "IllegalArgumentException";
    private static final String I = "IndexOutOfBoundsException";
    private static final String S = "IllegalStateException";

    private static final String[] FACE = {
        "int addChange(int, int, int) " + A + " " + S,
        "int edit(int, int, int, int) " + A + " " + I + " " + S,
        "int changes()",
        "int checksum(int) " + I,
        "int state(int) " + I,
        "int level()",
        "int drifted()",
        "int insert(int, int, int, int) " + A + " " + S,
        "int write(int, int, int) " + A + " " + I,
        "int delete(int) " + A + " " + I,
        "int value(int, int) " + A + " " + I,
        "int version(int) " + A,
        "int rowsAt(int) " + A,
        "int valueAt(int, int, int) " + A + " " + I + " " + S,
        "int take(int, int) " + A + " " + S,
        "void giveBack(int) " + A + " " + S,
        "int holder()",
        "boolean restart(int) " + A + " " + S,
        "int pass(int) " + A,
        "int begin(int) " + A + " " + S,
        "int undo(int) " + A + " " + S,
        "int step(int, int, int) " + A + " " + S,
        "int cursor() " + S,
        "float share() " + S,
    };

    public static void main(String[] args) {
        Class<?> face = Migrationledger.class;
        Expect.answer("modifiers of the class", Modifier.PUBLIC | Modifier.FINAL,
                () -> face.getModifiers());
        Set<String> due = new TreeSet<>(Arrays.asList(FACE));
        Expect.answer("methods", due, () -> methodsNotPrivate(face));
        Expect.answer("private methods with a public name", 0, () -> privateNamesakes(face));
        Expect.answer("constructors", "public ()", () -> constructors(face));
        Expect.answer("fields that are not private", 0, () -> (int) Arrays.stream(face.getDeclaredFields())
                .filter(field -> !Modifier.isPrivate(field.getModifiers())).count());
        Expect.answer("nested classes that are public, protected or not static", 0,
                () -> (int) Arrays.stream(face.getDeclaredClasses())
                        .filter(nested -> !isHiddenAndStatic(nested.getModifiers())).count());
        Expect.end();
    }

    private static Set<String> methodsNotPrivate(Class<?> face) {
        Set<String> found = new TreeSet<>();
        for (Method method : face.getDeclaredMethods()) {
            int modifiers = method.getModifiers();
            if (Modifier.isPrivate(modifiers) || method.isSynthetic()) {
                continue;
            }
            String hidden = modifiers == Modifier.PUBLIC ? "" : Modifier.toString(modifiers) + " ";
            found.add(hidden + described(method));
        }
        return found;
    }

    private static String described(Method method) {
        StringBuilder text = new StringBuilder();
        text.append(method.getReturnType().getSimpleName()).append(' ').append(method.getName());
        text.append('(').append(names(method.getParameterTypes(), ", ")).append(')');
        String thrown = names(method.getExceptionTypes(), " ");
        return thrown.isEmpty() ? text.toString() : text.append(' ').append(thrown).toString();
    }

    private static String names(Class<?>[] types, String between) {
        StringBuilder text = new StringBuilder();
        for (Class<?> type : types) {
            text.append(text.length() == 0 ? "" : between).append(type.getSimpleName());
        }
        return text.toString();
    }

    private static int privateNamesakes(Class<?> face) {
        Set<String> publicNames = new TreeSet<>();
        for (String line : FACE) {
            publicNames.add(line.substring(line.indexOf(' ') + 1, line.indexOf('(')));
        }
        int found = 0;
        for (Method method : face.getDeclaredMethods()) {
            if (Modifier.isPrivate(method.getModifiers()) && publicNames.contains(method.getName())) {
                found++;
            }
        }
        return found;
    }

    private static String constructors(Class<?> face) {
        StringBuilder text = new StringBuilder();
        for (Constructor<?> made : face.getDeclaredConstructors()) {
            text.append(Modifier.toString(made.getModifiers())).append(" (");
            text.append(names(made.getParameterTypes(), ", ")).append(')');
        }
        return text.toString();
    }

    private static boolean isHiddenAndStatic(int modifiers) {
        return Modifier.isStatic(modifiers) && !Modifier.isPublic(modifiers)
                && !Modifier.isProtected(modifiers);
    }
}
