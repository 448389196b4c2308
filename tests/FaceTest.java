import java.io.IOException;
import java.lang.reflect.Constructor;
import java.lang.reflect.Executable;
import java.lang.reflect.Field;
import java.lang.reflect.Member;
import java.lang.reflect.Method;
import java.lang.reflect.Modifier;
import java.nio.file.Files;
import java.nio.file.Path;
import java.util.ArrayList;
import java.util.List;
import java.util.TreeSet;

/**
 * "The public face": the class has the constants, the constructor and the methods that the document lists,
 * with their values, types and exceptions, and no other member that is not private.
 */
final class FaceTest {
    private static final Check CHECK = new Check("FaceTest");
    private static final Path DOCUMENT = Path.of("../shared/DOC.md");

    public static void main(String[] args) throws Exception {
        TreeSet<String> due = new TreeSet<>(listed());
        TreeSet<String> got = new TreeSet<>(members());
        CHECK.is("lines of the face", 72, due.size());
        for (String line : due) {
            CHECK.is("the class has: " + line, 1, got.contains(line) ? 1 : 0);
        }
        for (String line : got) {
            CHECK.is("the document lists: " + line, 1, due.contains(line) ? 1 : 0);
        }
        classes();
        CHECK.end();
    }

    /** The lines of the document's first block of code, but for its first two and its last one. */
    private static List<String> listed() throws IOException {
        List<String> lines = new ArrayList<>();
        boolean isInside = false;
        for (String line : Files.readAllLines(DOCUMENT)) {
            if (isInside && line.equals("}")) {
                break;
            }
            if (isInside) {
                lines.add(withoutNames(line.trim()));
            }
            isInside = isInside || line.startsWith("public final class PennyBakery");
        }
        return lines;
    }

    /** Reflection does not know the names of the parameters. */
    private static String withoutNames(String line) {
        return line.replaceAll("(int|double|float) [a-z]+([,)])", "$1$2");
    }

    private static List<String> members() throws IllegalAccessException {
        List<String> lines = new ArrayList<>();
        for (Field field : PennyBakery.class.getDeclaredFields()) {
            if (isSeen(field)) {
                lines.add(signs(field) + field.getType() + ' ' + field.getName() + " = " + field.get(null) + ';');
            }
        }
        for (Constructor<?> constructor : PennyBakery.class.getDeclaredConstructors()) {
            if (isSeen(constructor)) {
                lines.add(signs(constructor) + "PennyBakery" + parameters(constructor));
            }
        }
        for (Method method : PennyBakery.class.getDeclaredMethods()) {
            if (isSeen(method)) {
                lines.add(signs(method) + method.getReturnType() + ' ' + method.getName() + parameters(method));
            }
        }
        return lines;
    }

    private static boolean isSeen(Member member) {
        return !Modifier.isPrivate(member.getModifiers()) && !member.isSynthetic();
    }

    private static String signs(Member member) {
        String signs = Modifier.toString(member.getModifiers());
        return signs.isEmpty() ? "" : signs + ' ';
    }

    private static String parameters(Executable executable) {
        StringBuilder text = new StringBuilder("(");
        for (Class<?> type : executable.getParameterTypes()) {
            text.append(text.length() > 1 ? ", " : "").append(type);
        }
        text.append(')');
        for (int i = 0; i < executable.getExceptionTypes().length; i++) {
            text.append(i == 0 ? " throws " : ", ").append(executable.getExceptionTypes()[i].getSimpleName());
        }
        return text.append(';').toString();
    }

    private static void classes() {
        CHECK.isText("the class", "public final", Modifier.toString(PennyBakery.class.getModifiers()));
        for (Class<?> inner : PennyBakery.class.getDeclaredClasses()) {
            CHECK.is(inner + " is not for callers", 0, inner.getModifiers() & (Modifier.PUBLIC | Modifier.PROTECTED));
        }
    }
}
