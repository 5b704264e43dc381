import java.io.IOException;
import java.lang.reflect.Constructor;
import java.lang.reflect.Field;
import java.lang.reflect.Method;
import java.lang.reflect.Modifier;
import java.nio.file.Files;
import java.nio.file.Path;
import java.util.Arrays;
import java.util.Set;
import java.util.TreeSet;
import java.util.regex.Matcher;
import java.util.regex.Pattern;

/** The public face, and some rules of LANGUAGE.md that a look at the class and its text can tell. */
public final class FaceTest {
    private static final String OUTSIDE = " IndexOutOfBoundsException";
    private static final String ARGUMENT = " IllegalArgumentException";
    private static final String STATE = " IllegalStateException";
    private static final String FULL = " UnsupportedOperationException";
    private static final Check CHECK = new Check("FaceTest");

    private FaceTest() {
    }

    public static void main(String[] args) throws IOException {
        constants();
        methods();
        nothingElseIsSeen();
        classesInside();
        words(Files.readString(Path.of("src/main/java/LayeredActs.java")));
        CHECK.end();
    }

    private static void constants() {
        CHECK.equal("NONE", -1, LayeredActs.NONE);
        CHECK.equal("ENDED", -2, LayeredActs.ENDED);
        CHECK.equal("OUT", -3, LayeredActs.OUT);
    }

    private static void methods() {
        Set<String> want = new TreeSet<>(Set.of(
                "int give(boolean, int)" + OUTSIDE + FULL,
                "int of(int, int, int)" + OUTSIDE + ARGUMENT + FULL,
                "int read()" + FULL,
                "int write(boolean, int)" + OUTSIDE + FULL,
                "int say(boolean, int)" + OUTSIDE + FULL,
                "int fail(boolean, int)" + OUTSIDE + FULL,
                "int none()" + FULL,
                "int either(int, int)" + OUTSIDE + FULL,
                "int then(int, int, int)" + OUTSIDE + FULL,
                "int saved(int, int, int)" + OUTSIDE + FULL,
                "int when(int, int, int)" + OUTSIDE + FULL,
                "int times(boolean, int, int)" + OUTSIDE + FULL,
                "int as(int, int)" + OUTSIDE + ARGUMENT + FULL,
                "int order(int, int, int, int)" + ARGUMENT,
                "int needs(int)" + OUTSIDE,
                "int run(int, int, int)" + OUTSIDE + ARGUMENT + STATE,
                "int result(int, int)" + OUTSIDE + ARGUMENT,
                "int shared(int)" + STATE + ARGUMENT,
                "boolean alike(int, int, int, int)" + OUTSIDE + ARGUMENT + STATE,
                "int terms()"));
        Set<String> got = new TreeSet<>();
        for (Method m : LayeredActs.class.getDeclaredMethods()) {
            if (Modifier.isPublic(m.getModifiers())) {
                got.add(written(m));
            }
        }
        CHECK.equal("the public methods", want.toString(), got.toString());
    }

    private static String written(Method m) {
        StringBuilder text = new StringBuilder();
        text.append(m.getReturnType()).append(' ').append(m.getName()).append('(');
        text.append(Arrays.toString(m.getParameterTypes()).replaceAll("[\\[\\]]", "")).append(')');
        for (Class<?> e : m.getExceptionTypes()) {
            text.append(' ').append(e.getSimpleName());
        }
        return text.toString();
    }

    private static boolean isPrivate(int modifiers) {
        return Modifier.isPrivate(modifiers);
    }

    private static void nothingElseIsSeen() {
        Class<LayeredActs> face = LayeredActs.class;
        CHECK.holds("public and final", (face.getModifiers() & (Modifier.PUBLIC | Modifier.FINAL)) == (Modifier.PUBLIC | Modifier.FINAL));
        Set<String> seen = new TreeSet<>();
        Set<String> names = new TreeSet<>();
        for (Method m : face.getDeclaredMethods()) {
            CHECK.holds(m.getName() + " is public or private", Modifier.isPublic(m.getModifiers()) || isPrivate(m.getModifiers()));
            if (Modifier.isPublic(m.getModifiers())) {
                names.add(m.getName());
            }
        }
        for (Field f : face.getDeclaredFields()) {
            if (!isPrivate(f.getModifiers())) {
                seen.add(f.getName());
            }
        }
        CHECK.equal("fields that are seen", "[ENDED, NONE, OUT]", seen.toString());
        for (Constructor<?> c : face.getDeclaredConstructors()) {
            CHECK.holds("the one constructor", Modifier.isPublic(c.getModifiers()) && c.getParameterCount() == 0);
        }
        privateNames(face, names);
        for (Class<?> inside : face.getDeclaredClasses()) {
            privateNames(inside, names);
        }
    }

    private static void privateNames(Class<?> one, Set<String> names) {
        for (Method m : one.getDeclaredMethods()) {
            boolean ofTheFace = one == LayeredActs.class && Modifier.isPublic(m.getModifiers());
            CHECK.holds(one.getSimpleName() + "." + m.getName() + " bears no public name", ofTheFace || !names.contains(m.getName()));
            CHECK.holds(m.getName() + " has at most seven parameters", m.getParameterCount() <= 7);
        }
    }

    private static void classesInside() {
        Class<?>[] inside = LayeredActs.class.getDeclaredClasses();
        CHECK.holds("at most twelve classes", inside.length <= 11);
        for (Class<?> one : inside) {
            int modifiers = one.getModifiers();
            CHECK.holds(one.getSimpleName() + " is static", Modifier.isStatic(modifiers));
            CHECK.holds(one.getSimpleName() + " is not open", !Modifier.isPublic(modifiers) && !Modifier.isProtected(modifiers));
            long fields = Arrays.stream(one.getDeclaredFields()).filter(f -> !Modifier.isStatic(f.getModifiers())).count();
            CHECK.holds(one.getSimpleName() + " has at most twenty fields", fields <= 20);
            for (Field f : one.getDeclaredFields()) {
                CHECK.holds(f.getName() + " is final if static", !Modifier.isStatic(f.getModifiers()) || Modifier.isFinal(f.getModifiers()));
            }
        }
    }

    private static void words(String text) {
        String code = text.replaceAll("(?s)/\\*.*?\\*/", "").replaceAll("//[^\n]*", "").replaceAll("\"[^\"]*\"", "\"\"");
        for (String word : new String[] {"import", "package", "try", "catch", "finally", "synchronized", "assert",
            "equals", "hashCode", "toString", "Object", "Exact"}) {
            CHECK.holds("no " + word, !Pattern.compile("\\b\\w*" + word + "\\b").matcher(code).find());
        }
        CHECK.holds("no lambda", !code.contains("->"));
        CHECK.holds("no method reference", !code.contains("::"));
        Matcher thrown = Pattern.compile("throw new (\\w+)").matcher(code);
        while (thrown.find()) {
            CHECK.holds(thrown.group(1) + " may be thrown", Set.of("IllegalStateException", "IllegalArgumentException",
                    "IndexOutOfBoundsException", "UnsupportedOperationException").contains(thrown.group(1)));
        }
        CHECK.holds("plain characters", text.chars().allMatch(c -> c < 127));
    }
}
