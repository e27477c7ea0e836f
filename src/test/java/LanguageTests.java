import java.lang.reflect.Constructor;
import java.lang.reflect.Field;
import java.lang.reflect.Method;
import java.lang.reflect.Modifier;
import java.nio.file.Files;
import java.nio.file.Path;
import java.util.Set;
import java.util.TreeSet;
import java.util.regex.Matcher;
import java.util.regex.Pattern;

/** What of ../shared/LANGUAGE.md a look at the source and at the class can tell. */
public final class LanguageTests {
    private static final Set<String> FACE = Set.of("addSection", "resize", "setChill", "removeSection", "join",
        "part", "setMetal", "count", "section", "modulus", "joint", "atStep", "way", "end", "gathers",
        "leastFeeder", "bestFeeder", "leastChill", "excessWith", "undo", "type", "clearText", "textFault",
        "load", "digest");
    private static final Set<String> CONSTANTS = Set.of("NONE", "BAD_INDEX", "BAD_VALUE", "BAD_STATE", "FULL");

    private LanguageTests() {
    }

    public static void main(String[] args) throws Exception {
        source();
        face();
        for (Class<?> inside : CastingFeeder.class.getDeclaredClasses()) {
            inside(inside);
        }
        Checks.end();
    }

    private static void source() throws Exception {
        String code = Files.readString(Path.of("src/main/java/CastingFeeder.java"));
        Checks.holds("the source is plain ASCII", code.chars().allMatch(c -> c < 128));
        String bare = code.replaceAll("(?s)/\\*.*?\\*/", " ").replaceAll("//[^\n]*", " ");
        for (String word : new String[] {"throw", "throws", "try", "catch", "synchronized", "assert", "import",
            "package", "double", "float", "instanceof", "protected", "native", "volatile", "record", "yield"}) {
            Checks.holds("no word " + word, !Pattern.compile("\\b" + word + "\\b").matcher(bare).find());
        }
        Checks.holds("no lambda, no method reference", !bare.contains("->") && !bare.contains("::"));
        Matcher library = Pattern.compile("\\b(Math|Integer|Long|System|Arrays|String|StringBuilder|Object|Thread)\\b(\\.\\w+)?").matcher(bare);
        while (library.find()) {
            String name = library.group();
            Checks.holds("of the library: " + name, name.equals("Math.min") || name.equals("Math.max"));
        }
    }

    private static void face() {
        Set<String> open = new TreeSet<>();
        for (Method m : CastingFeeder.class.getDeclaredMethods()) {
            if (Modifier.isPublic(m.getModifiers())) {
                open.add(m.getName());
            } else {
                Checks.holds(m.getName() + " is private", Modifier.isPrivate(m.getModifiers()));
                Checks.holds(m.getName() + " has a name of its own", !FACE.contains(m.getName()));
            }
            Checks.holds(m.getName() + " takes at most seven parameters", m.getParameterCount() <= 7);
        }
        Checks.holds("the public methods are those of the document", open.equals(FACE));
        for (Field f : CastingFeeder.class.getDeclaredFields()) {
            boolean asked = CONSTANTS.contains(f.getName());
            Checks.holds(f.getName() + " is as open as the document tells",
                asked ? Modifier.isPublic(f.getModifiers()) : Modifier.isPrivate(f.getModifiers()));
            Checks.holds(f.getName() + " is final", Modifier.isFinal(f.getModifiers()));
        }
        Constructor<?>[] constructors = CastingFeeder.class.getDeclaredConstructors();
        Checks.due("constructors", constructors.length, 1);
        Checks.holds("the class is final", Modifier.isFinal(CastingFeeder.class.getModifiers()));
    }

    private static void inside(Class<?> inside) {
        String name = inside.getSimpleName();
        Checks.holds(name + " is static", Modifier.isStatic(inside.getModifiers()));
        Checks.holds(name + " is private", Modifier.isPrivate(inside.getModifiers()));
        Checks.holds(name + " has at most twenty fields", inside.getDeclaredFields().length <= 20);
        for (Method m : inside.getDeclaredMethods()) {
            Checks.holds(name + "." + m.getName() + " has a name of its own", !FACE.contains(m.getName()));
            Checks.holds(name + "." + m.getName() + " takes at most seven parameters", m.getParameterCount() <= 7);
        }
        for (Field f : inside.getDeclaredFields()) {
            boolean fixed = !Modifier.isStatic(f.getModifiers()) || Modifier.isFinal(f.getModifiers());
            Checks.holds(name + "." + f.getName() + " is no changing static field", fixed);
        }
    }
}
