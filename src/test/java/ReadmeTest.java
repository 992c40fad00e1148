import java.io.IOException;
import java.lang.reflect.Method;
import java.lang.reflect.Modifier;
import java.nio.file.Files;
import java.nio.file.Path;
import java.util.Arrays;
import java.util.Set;
import java.util.TreeSet;
import java.util.regex.Matcher;
import java.util.regex.Pattern;

/** README.md's example: each call answers the number that stands behind it, and none is left out. */
public final class ReadmeTest {
    private static final Pattern EXAMPLE = Pattern.compile("(?s)```java\n(.*?)```");
    private static final Pattern CALL = Pattern.compile("house\\.(\\w+)\\(([-0-9, ]*)\\); *// (-?[0-9]+)\\b.*");

    public static void main(String[] args) throws IOException, ReflectiveOperationException {
        Set<String> shown = new TreeSet<>();
        TailorHouse house = new TailorHouse();
        Matcher example = EXAMPLE.matcher(Files.readString(Path.of("README.md")));
        String lines = example.find() ? example.group(1) : "";
        for (String line : lines.split("\n")) {
            if (line.startsWith("house.")) {
                shown.add(ask(house, line));
            }
        }
        for (Method m : TailorHouse.class.getDeclaredMethods()) {
            if (Modifier.isPublic(m.getModifiers())) {
                Due.holds(m.getName() + " is shown", shown.contains(m.getName()));
            }
        }
        Due.end();
    }

    /** The name of the call that the line shows, or the line itself if it shows none. */
    private static String ask(TailorHouse house, String line) throws ReflectiveOperationException {
        Matcher call = CALL.matcher(line);
        Due.holds("a call and its answer: " + line, call.matches());
        if (!call.matches()) {
            return line;
        }
        Integer[] numbers = numbersOf(call.group(2));
        Class<?>[] types = new Class<?>[numbers.length];
        Arrays.fill(types, int.class);
        Method method = TailorHouse.class.getMethod(call.group(1), types);
        Number answer = (Number) method.invoke(house, (Object[]) numbers);
        Due.due(line, answer.longValue(), Long.parseLong(call.group(3)));
        return call.group(1);
    }

    private static Integer[] numbersOf(String list) {
        if (list.isBlank()) {
            return new Integer[0];
        }
        return Arrays.stream(list.split(", *")).map(Integer::valueOf).toArray(Integer[]::new);
    }
}
