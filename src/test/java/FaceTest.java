import java.io.IOException;
import java.lang.reflect.Constructor;
import java.lang.reflect.Field;
import java.lang.reflect.Method;
import java.lang.reflect.Modifier;
import java.nio.file.Files;
import java.nio.file.Path;
import java.util.Arrays;
import java.util.Set;
import java.util.TreeSet;

/** The public face is the document's, and what LANGUAGE.md rules out stands nowhere. */
public final class FaceTest {
    private static final String[] FACE = {
        "int street(int, int) IllegalArgumentException IllegalStateException",
        "int habit(int, int, int) IndexOutOfBoundsException IllegalArgumentException",
        "int dirt(int, int) IndexOutOfBoundsException IllegalArgumentException",
        "int lorry(int, int, int) IllegalArgumentException IllegalStateException",
        "int round(int, int, int) IndexOutOfBoundsException IllegalStateException",
        "int clear(int, int) IndexOutOfBoundsException",
        "int eye(int) IllegalArgumentException",
        "int hand(int) IllegalArgumentException",
        "int oven(int) IllegalArgumentException",
        "int pass(int) IllegalArgumentException",
        "boolean sell(int, int, int) IndexOutOfBoundsException IllegalArgumentException"
            + " IllegalStateException",
        "int open(int) IndexOutOfBoundsException IllegalStateException",
        "int sweep(int) IndexOutOfBoundsException",
        "boolean claim(int, int) IndexOutOfBoundsException IllegalArgumentException"
            + " IllegalStateException",
        "int ofStreet(int, int) IndexOutOfBoundsException IllegalArgumentException",
        "int ofLorry(int, int) IndexOutOfBoundsException IllegalArgumentException",
        "int ofBale(int, int) IndexOutOfBoundsException IllegalArgumentException",
        "int many(int) IllegalArgumentException",
        "int rate(int) IllegalArgumentException",
        "double meanDirt()",
        "int fullIn(int, int) IndexOutOfBoundsException",
        "int bestFetch(int) IndexOutOfBoundsException",
        "int bestRound(int) IndexOutOfBoundsException",
        "int wouldLie(int) IllegalArgumentException",
        "long digest()",
    };
    private static final String[] RULED_OUT = {"->", "::", "catch", "finally", "synchronized",
        "assert ", "instanceof", "Exact(", "import java.util.*", "\" +", "+ \"", "System.", "Object"};

    public static void main(String[] args) throws IOException {
        face();
        source(Path.of(args.length > 0 ? args[0] : "."));
        Check.end();
    }

    private static void face() {
        Class<?> c = BinWard.class;
        Check.yes("public and final", Modifier.isPublic(c.getModifiers())
            && Modifier.isFinal(c.getModifiers()));
        Set<String> names = new TreeSet<>();
        Set<String> got = new TreeSet<>();
        for (Method m : c.getDeclaredMethods()) {
            if (Modifier.isPublic(m.getModifiers())) {
                got.add(told(m));
                names.add(m.getName());
            }
        }
        Set<String> due = new TreeSet<>(Arrays.asList(FACE));
        if (!got.equals(due)) {
            Check.complain("the face is " + got + ", due is " + due);
        }
        Check.same("names", names.size(), FACE.length);
        for (Method m : c.getDeclaredMethods()) {
            boolean shown = Modifier.isPublic(m.getModifiers());
            Check.yes(m + " is private", shown || Modifier.isPrivate(m.getModifiers()));
            Check.no(m + " bears a public name", !shown && names.contains(m.getName()));
        }
        for (Field f : c.getDeclaredFields()) {
            Check.yes(f + " is private", Modifier.isPrivate(f.getModifiers()));
            Check.yes(f + " is final, if static", !Modifier.isStatic(f.getModifiers())
                || Modifier.isFinal(f.getModifiers()));
        }
        Constructor<?>[] made = c.getDeclaredConstructors();
        Check.same("constructors", made.length, 1);
        Check.yes("a public one", Modifier.isPublic(made[0].getModifiers()));
        inside(c, names);
    }

    private static void inside(Class<?> c, Set<String> names) {
        Check.yes("some twelve classes", c.getDeclaredClasses().length <= 12);
        for (Class<?> own : c.getDeclaredClasses()) {
            Check.yes(own + " is static", Modifier.isStatic(own.getModifiers()));
            Check.yes(own + " has some twenty fields", own.getDeclaredFields().length <= 20);
            for (Method m : own.getDeclaredMethods()) {
                Check.no(m + " bears a public name", names.contains(m.getName()));
                Check.yes(m + " has at most seven parameters", m.getParameterCount() <= 7);
            }
        }
    }

    private static String told(Method m) {
        StringBuilder text = new StringBuilder(m.getReturnType().getSimpleName());
        text.append(' ').append(m.getName()).append('(');
        for (int i = 0; i < m.getParameterCount(); i++) {
            text.append(i > 0 ? ", " : "").append(m.getParameterTypes()[i].getSimpleName());
        }
        text.append(')');
        for (Class<?> e : m.getExceptionTypes()) {
            text.append(' ').append(e.getSimpleName());
        }
        return text.toString();
    }

    private static void source(Path root) throws IOException {
        String text = Files.readString(root.resolve("src/main/java/BinWard.java"));
        for (String ruled : RULED_OUT) {
            Check.no("the source has " + ruled, text.contains(ruled));
        }
        Check.no("a package line", text.startsWith("package"));
        for (int i = 0; i < text.length(); i++) {
            if (text.charAt(i) > 127) {
                Check.complain("a sign beyond 127 at " + i);
            }
        }
    }
}
