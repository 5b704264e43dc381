import java.io.IOException;
import java.lang.reflect.Constructor;
import java.lang.reflect.Field;
import java.lang.reflect.Method;
import java.lang.reflect.Modifier;
import java.nio.file.Files;
import java.nio.file.Path;
import java.util.Arrays;
import java.util.List;
import java.util.Set;
import java.util.TreeSet;
import java.util.regex.Matcher;
import java.util.regex.Pattern;
import java.util.stream.Collectors;

/** The public face, and those rules of LANGUAGE.md that a look at the class and its text can tell. */
public final class FaceTest {
    private static final Check CHECK = new Check("FaceTest");
    private static final Set<String> EXCEPTIONS = Set.of("IllegalStateException", "IllegalArgumentException",
            "IndexOutOfBoundsException", "ArithmeticException", "UnsupportedOperationException", "NoSuchElementException",
            "RuntimeException");

    private FaceTest() {
    }

    public static void main(String[] args) throws IOException {
        constants();
        methods();
        nothingElseIsSeen();
        classesInside();
        String text = Files.readString(Path.of("src/main/java/LayeredActs.java"));
        String code = text.replaceAll("(?s)/\\*.*?\\*/", "").replaceAll("//[^\n]*", "").replaceAll("\"[^\"]*\"", "\"\"");
        words(code);
        exceptions(code);
        CHECK.end();
    }

    private static void constants() {
        CHECK.sentence("The constants: NONE = -1, ENDED = -2, OUT = -3");
        CHECK.equal("NONE", -1, LayeredActs.NONE);
        CHECK.equal("ENDED", -2, LayeredActs.ENDED);
        CHECK.equal("OUT", -3, LayeredActs.OUT);
    }

    /** The document's lines, but for the names of parameters, which a compiled class does not keep. */
    private static void methods() throws IOException {
        CHECK.sentence("The public face");
        Set<String> want = new TreeSet<>();
        for (String line : Files.readAllLines(Path.of("../shared/DOC.md"))) {
            if (line.startsWith("    public ") && line.contains("(") && !line.contains("LayeredActs(")) {
                want.add(line.strip().replace("public ", "").replace(";", "").replaceAll("(int|boolean) \\w+(?=[,)])", "$1"));
            }
        }
        CHECK.equal("how many methods the document has", 20, want.size());
        Set<String> got = new TreeSet<>();
        for (Method m : methodsOf(LayeredActs.class)) {
            if (Modifier.isPublic(m.getModifiers())) {
                String thrown = namesOf(m.getExceptionTypes());
                got.add(m.getReturnType() + " " + m.getName() + "(" + namesOf(m.getParameterTypes()) + ")"
                        + (thrown.isEmpty() ? "" : " throws " + thrown));
            }
        }
        CHECK.equal("the public methods", want.toString(), got.toString());
    }

    private static String namesOf(Class<?>[] types) {
        return Arrays.stream(types).map(Class::getSimpleName).collect(Collectors.joining(", "));
    }

    private static List<Method> methodsOf(Class<?> one) {
        return Arrays.stream(one.getDeclaredMethods()).filter(m -> !m.isSynthetic()).toList();
    }

    private static List<Field> fieldsOf(Class<?> one) {
        return Arrays.stream(one.getDeclaredFields()).filter(f -> !f.isSynthetic()).toList();
    }

    private static void nothingElseIsSeen() {
        CHECK.sentence("rule 1: public and final, no other public, protected or package-visible member");
        Class<LayeredActs> face = LayeredActs.class;
        CHECK.holds("public", Modifier.isPublic(face.getModifiers()));
        CHECK.holds("final", Modifier.isFinal(face.getModifiers()));
        Set<String> names = new TreeSet<>();
        for (Method m : methodsOf(face)) {
            boolean seen = Modifier.isPublic(m.getModifiers());
            CHECK.holds(m.getName() + " is public or private", seen || Modifier.isPrivate(m.getModifiers()));
            if (seen) {
                names.add(m.getName());
            }
        }
        Set<String> seen = new TreeSet<>();
        for (Field f : fieldsOf(face)) {
            if (!Modifier.isPrivate(f.getModifiers())) {
                seen.add(f.getName());
            }
        }
        CHECK.equal("fields that are seen", "[ENDED, NONE, OUT]", seen.toString());
        Constructor<?>[] constructors = face.getDeclaredConstructors();
        CHECK.equal("constructors", 1, constructors.length);
        CHECK.holds("a public one of nothing", Modifier.isPublic(constructors[0].getModifiers())
                && constructors[0].getParameterCount() == 0);
        privateNames(face, names);
        for (Class<?> inside : face.getDeclaredClasses()) {
            privateNames(inside, names);
        }
    }

    private static void privateNames(Class<?> one, Set<String> names) {
        for (Method m : methodsOf(one)) {
            String name = one.getSimpleName() + "." + m.getName();
            CHECK.holds(name + " bears no public name", !Modifier.isPrivate(m.getModifiers()) || !names.contains(m.getName()));
            CHECK.holds(name + " has at most seven parameters", m.getParameterCount() <= 7);
        }
        for (Field f : fieldsOf(one)) {
            CHECK.holds(f.getName() + " is final if static", !Modifier.isStatic(f.getModifiers()) || Modifier.isFinal(f.getModifiers()));
        }
    }

    private static void classesInside() {
        CHECK.sentence("rule 1: the classes inside it are private or package-visible");
        for (Class<?> one : LayeredActs.class.getDeclaredClasses()) {
            int modifiers = one.getModifiers();
            CHECK.holds(one.getSimpleName() + " is not open", !Modifier.isPublic(modifiers) && !Modifier.isProtected(modifiers));
        }
    }

    private static boolean has(String code, String pattern) {
        return Pattern.compile(pattern).matcher(code).find();
    }

    private static void words(String code) {
        CHECK.sentence("rules 2, 4, 6 and 13: what is not used");
        for (String word : new String[] {"package", "finally", "synchronized", "assert", "hashCode", "getMessage", "Object",
            "Thread", "Random", "Throwable", "Exception", "Error"}) {
            CHECK.holds("no " + word, !has(code, "\\b" + word + "\\b"));
        }
        CHECK.holds("none that ends in Exact", !has(code, "\\w+Exact\\b"));
        CHECK.holds("of System, arraycopy alone", !has(code, "System\\.(?!arraycopy)"));
        CHECK.holds("of packages, java.util alone", !has(code, "\\bjava\\.(?!util\\.\\w+\\s*;)"));
        // The arrow of a switch is no lambda.
        String withoutArrows = code.replaceAll("(case[^:;{}]*?|default\\s*)->", "");
        CHECK.holds("no lambda", !withoutArrows.contains("->"));
        CHECK.holds("no method reference", !code.contains("::"));
    }

    private static void exceptions(String code) {
        CHECK.sentence("rule 6: which exceptions there are");
        Matcher named = Pattern.compile("\\b\\w+Exception\\b").matcher(code);
        while (named.find()) {
            CHECK.holds(named.group() + " may be named", EXCEPTIONS.contains(named.group()));
        }
        CHECK.equal("each throw makes its own", code.split("\\bthrow\\b").length, code.split("\\bthrow new\\b").length);
    }
}
