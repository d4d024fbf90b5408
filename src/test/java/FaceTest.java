import java.io.IOException;
import java.lang.reflect.Constructor;
import java.lang.reflect.Field;
import java.lang.reflect.Method;
import java.lang.reflect.Modifier;
import java.nio.file.Files;
import java.nio.file.Path;
import java.util.Arrays;
import java.util.List;
import java.util.TreeSet;

/** The class's face, and those rules of LANGUAGE.md that are easily seen from outside. */
public final class FaceTest {
    private static final Check CHECK = new Check("FaceTest");

    private static final List<String> FACE = List.of(
            "int vein(int, int, int, int, int, int) IndexOutOfBoundsException IllegalArgumentException IllegalStateException",
            "int dowser(int, int) IllegalArgumentException IllegalStateException",
            "int setMark(int) IllegalArgumentException",
            "int walk(int, int, int, int, int) IndexOutOfBoundsException",
            "int pull(int, int) IndexOutOfBoundsException IllegalStateException",
            "int pit(int, int) IndexOutOfBoundsException IllegalStateException",
            "int bet(int, int, int, boolean) IndexOutOfBoundsException IllegalArgumentException IllegalStateException",
            "int dig(int, int) IndexOutOfBoundsException IllegalArgumentException IllegalStateException",
            "int spot(int, int, int) IndexOutOfBoundsException",
            "int rod(int, int, int) IndexOutOfBoundsException",
            "int told(int, int) IndexOutOfBoundsException",
            "int about(int, int) IndexOutOfBoundsException",
            "int count(int) IndexOutOfBoundsException",
            "int line(int) IndexOutOfBoundsException",
            "int would(int, int, boolean) IndexOutOfBoundsException",
            "int best(int, int) IndexOutOfBoundsException",
            "int advise()",
            "double mean()",
            "long digest()");

    public static void main(String[] args) throws IOException {
        checkClass();
        checkMembers();
        checkNestedClasses();
        checkSource(args.length > 0 ? Path.of(args[0]) : Path.of(""));
        CHECK.end();
    }

    private static void checkClass() {
        int modifiers = DowserPegs.class.getModifiers();
        CHECK.isTrue("public final", Modifier.isPublic(modifiers) && Modifier.isFinal(modifiers));
        Constructor<?>[] constructors = DowserPegs.class.getDeclaredConstructors();
        CHECK.due("constructors", 1, constructors.length);
        CHECK.isTrue("public constructor without parameters",
                Modifier.isPublic(constructors[0].getModifiers()) && constructors[0].getParameterCount() == 0);
    }

    private static void checkMembers() {
        TreeSet<String> open = new TreeSet<>();
        TreeSet<String> openNames = new TreeSet<>();
        for (Method method : DowserPegs.class.getDeclaredMethods()) {
            if (!Modifier.isPrivate(method.getModifiers())) {
                CHECK.isTrue(method + " public, not static",
                        Modifier.isPublic(method.getModifiers()) && !Modifier.isStatic(method.getModifiers()));
                open.add(describe(method));
                openNames.add(method.getName());
            }
        }
        CHECK.isTrue("the face is the document's: " + open, open.equals(new TreeSet<>(FACE)));
        for (Method method : DowserPegs.class.getDeclaredMethods()) {
            CHECK.isTrue(method + " bears no public name",
                    !Modifier.isPrivate(method.getModifiers()) || !openNames.contains(method.getName()));
        }
        checkFields(DowserPegs.class);
        for (Field field : DowserPegs.class.getDeclaredFields()) {
            CHECK.isTrue(field + " private", Modifier.isPrivate(field.getModifiers()));
        }
    }

    private static String describe(Method method) {
        StringBuilder text = new StringBuilder(method.getReturnType().getName());
        text.append(' ').append(method.getName()).append('(');
        for (int i = 0; i < method.getParameterCount(); i++) {
            text.append(i > 0 ? ", " : "").append(method.getParameterTypes()[i].getName());
        }
        text.append(')');
        for (Class<?> thrown : method.getExceptionTypes()) {
            text.append(' ').append(thrown.getSimpleName());
        }
        return text.toString();
    }

    private static void checkFields(Class<?> owner) {
        for (Field field : owner.getDeclaredFields()) {
            int modifiers = field.getModifiers();
            CHECK.isTrue(field + " final, as it is static", !Modifier.isStatic(modifiers) || Modifier.isFinal(modifiers));
        }
    }

    private static void checkNestedClasses() {
        for (Class<?> nested : DowserPegs.class.getDeclaredClasses()) {
            int modifiers = nested.getModifiers();
            CHECK.isTrue(nested + " static, not public or protected", Modifier.isStatic(modifiers)
                    && !Modifier.isPublic(modifiers) && !Modifier.isProtected(modifiers));
            checkFields(nested);
        }
    }

    private static void checkSource(Path root) throws IOException {
        List<String> lines = Files.readAllLines(root.resolve("src/main/java/DowserPegs.java"));
        for (String line : lines) {
            if (line.startsWith("import ")) {
                CHECK.isTrue("import allowed: " + line, line.equals("import java.util.Arrays;"));
            }
            for (String banned : Arrays.asList("->", "::", "try ", "catch", "finally", "assert", "synchronized",
                    "Math.addExact", "System.", "package ", "static {", "hashCode", "toString")) {
                CHECK.isTrue("no '" + banned + "' in: " + line, !line.contains(banned));
            }
        }
    }
}
