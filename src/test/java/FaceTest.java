import java.io.IOException;
import java.lang.reflect.Constructor;
import java.lang.reflect.Field;
import java.lang.reflect.Method;
import java.lang.reflect.Modifier;
import java.nio.file.Files;
import java.nio.file.Path;
import java.util.Arrays;
import java.util.Set;
import java.util.TreeSet;
import java.util.regex.Matcher;
import java.util.regex.Pattern;

/** The public face of the document, and the rules of LANGUAGE.md that a machine can look at. */
public final class FaceTest {
    private static final String[] METHODS = {
        "int tell(int, int, int, int, int)", "int habit(int, int, int)", "int measure(int, int)",
        "int grown(int, int)", "int found(int, int, int)", "int fixed(int, int)", "int off(int, int, int)",
        "int by(int, int, int, int, int)", "int middle(int, int)", "int at(int, int, int)",
        "int piece(int, int, int, int)", "int more(int, int)", "int length(int, int, int)",
        "long area(int, int)", "int seam(int, int, int, int)", "int gaps(int, int)", "int hangs(int, int)",
        "int cloth(int, int)", "int laid(int)", "int laidAt(int, int)", "int coat(int, int, int, int)",
        "int clear()", "int best(int)", "int coatAt(int)", "int count(int)", "long digest()"};

    public static void main(String[] args) throws IOException {
        constants();
        members();
        nestedClasses();
        source();
        Due.end();
    }

    private static void constants() {
        Due.due("NONE", TailorHouse.NONE, -1);
        Due.due("BAD", TailorHouse.BAD, -2);
        Due.due("NO", TailorHouse.NO, -3);
        Due.due("FULL", TailorHouse.FULL, -4);
    }

    private static String nameOf(Method m) {
        String types = Arrays.toString(Arrays.stream(m.getParameterTypes()).map(Class::getName).toArray());
        return m.getReturnType().getName() + " " + m.getName() + "(" + types.substring(1, types.length() - 1) + ")";
    }

    private static void members() {
        Class<?> house = TailorHouse.class;
        Due.holds("public and final", Modifier.isPublic(house.getModifiers()) && Modifier.isFinal(house.getModifiers()));
        Set<String> seen = new TreeSet<>();
        Set<String> publicNames = new TreeSet<>();
        for (Method m : house.getDeclaredMethods()) {
            if (!Modifier.isPrivate(m.getModifiers())) {
                seen.add(nameOf(m));
                publicNames.add(m.getName());
                Due.holds(m + " is public and not static",
                    Modifier.isPublic(m.getModifiers()) && !Modifier.isStatic(m.getModifiers()));
            }
        }
        Due.holds("methods " + seen, seen.equals(new TreeSet<>(Arrays.asList(METHODS))));
        Set<String> fields = new TreeSet<>();
        for (Field f : house.getDeclaredFields()) {
            if (!Modifier.isPrivate(f.getModifiers())) {
                fields.add(f.getName());
            }
            if (Modifier.isStatic(f.getModifiers())) {
                Due.holds(f + " is final", Modifier.isFinal(f.getModifiers()));
            }
        }
        Due.holds("fields " + fields, fields.equals(Set.of("NONE", "BAD", "NO", "FULL")));
        Constructor<?>[] made = house.getDeclaredConstructors();
        Due.holds("one public constructor", made.length == 1 && made[0].getParameterCount() == 0
            && Modifier.isPublic(made[0].getModifiers()));
        noNameTwice(house, publicNames);
    }

    private static void noNameTwice(Class<?> house, Set<String> publicNames) {
        for (Method m : house.getDeclaredMethods()) {
            if (Modifier.isPrivate(m.getModifiers())) {
                Due.holds(m + " has a name of its own", !publicNames.contains(m.getName()));
            }
        }
        for (Class<?> inside : house.getDeclaredClasses()) {
            for (Method m : inside.getDeclaredMethods()) {
                Due.holds(m + " has a name of its own", !publicNames.contains(m.getName()));
            }
        }
    }

    private static void nestedClasses() {
        for (Class<?> inside : TailorHouse.class.getDeclaredClasses()) {
            int modifiers = inside.getModifiers();
            Due.holds(inside + " is static", Modifier.isStatic(modifiers));
            Due.holds(inside + " is not public", !Modifier.isPublic(modifiers) && !Modifier.isProtected(modifiers));
            Due.holds(inside + " has some twenty fields", inside.getDeclaredFields().length <= 20);
        }
        Due.holds("some twelve classes", TailorHouse.class.getDeclaredClasses().length <= 11);
    }

    private static void source() throws IOException {
        String text = Files.readString(Path.of("src/main/java/TailorHouse.java"));
        String code = text.replaceAll("(?s)/\\*.*?\\*/", " ").replaceAll("//[^\n]*", " ");
        String[] words = {"throw", "throws", "try", "catch", "synchronized", "assert", "import", "package",
            "double", "float", "System\\s*\\.\\s*(?!arraycopy)\\w+", "\\w+Exact", "->", "::"};
        for (String word : words) {
            String form = Character.isLetter(word.charAt(0)) ? "\\b" + word + "\\b" : word;
            Due.due(word + " in the source", times(form, code), 0);
        }
        // rows and parts are made with the object alone, so that no call makes one
        int made = times("\\bnew\\b", code);
        int rows = times("private final (int|boolean)\\[\\] \\w+ = new ", code);
        int parts = times("(?m)^        \\w+ = new [A-Z]\\w*\\(\\w*\\);", code);
        Due.due("what is made is a row or a part", made, rows + parts);
        Due.due("one place divides", times("[/%]", code), 1);
    }

    private static int times(String form, String code) {
        Matcher found = Pattern.compile(form).matcher(code);
        int times = 0;
        while (found.find()) {
            times++;
        }
        return times;
    }
}
