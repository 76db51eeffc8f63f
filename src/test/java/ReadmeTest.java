import java.io.IOException;
import java.lang.reflect.Method;
import java.lang.reflect.Modifier;
import java.nio.file.Files;
import java.nio.file.Path;
import java.util.List;
import java.util.Set;
import java.util.TreeSet;
import java.util.regex.Matcher;
import java.util.regex.Pattern;
import java.util.stream.Stream;

/** What README.md shows of calls and answers is what the class answers; each call and each test is in it. */
public final class ReadmeTest {
    private static final Pattern CALL = Pattern.compile("x\\.(\\w+)\\(([-\\d, ]*)\\);\\s+// (-?\\d+)(:.*)?");
    private static final Pattern LISTED = Pattern.compile("(?m)^\\| `(\\w+Test)` \\|");

    private static EvenLines x = null;
    private static final Set<String> SHOWN = new TreeSet<>();

    public static void main(String[] args) throws Exception {
        List<String> lines = Files.readAllLines(Path.of("README.md"));
        boolean inside = false;
        for (String line : lines) {
            if (line.startsWith("```")) {
                inside = line.equals("```java");
                x = null;
            } else if (inside) {
                show(line);
            }
        }
        eachCallIsShown();
        eachTestIsListed(String.join("\n", lines));
        Check.end();
    }

    private static void show(String line) throws ReflectiveOperationException {
        if (line.equals("EvenLines x = new EvenLines();")) {
            x = new EvenLines();
            return;
        }
        Matcher call = CALL.matcher(line);
        if (x == null || !call.matches()) {
            Check.fail("README.md shows no call with its answer: " + line);
            return;
        }
        String[] numbers = call.group(2).isEmpty() ? new String[0] : call.group(2).split(", ");
        Object[] arguments = new Object[numbers.length];
        Class<?>[] types = new Class<?>[numbers.length];
        for (int i = 0; i < numbers.length; i++) {
            arguments[i] = Integer.valueOf(numbers[i]);
            types[i] = int.class;
        }
        Method method = EvenLines.class.getMethod(call.group(1), types);
        Check.due("README.md: " + line, ((Number) method.invoke(x, arguments)).longValue(), Long.parseLong(call.group(3)));
        SHOWN.add(call.group(1));
    }

    private static void eachCallIsShown() {
        for (Method m : EvenLines.class.getDeclaredMethods()) {
            if (Modifier.isPublic(m.getModifiers()) && !SHOWN.contains(m.getName())) Check.fail("README.md does not show " + m.getName());
        }
    }

    private static void eachTestIsListed(String text) throws IOException {
        Set<String> listed = new TreeSet<>();
        for (Matcher row = LISTED.matcher(text); row.find();) listed.add(row.group(1));
        Set<String> there = new TreeSet<>();
        try (Stream<Path> files = Files.list(Path.of("src/test/java"))) {
            files.map(f -> f.getFileName().toString()).filter(f -> f.endsWith("Test.java")).forEach(f -> there.add(f.replace(".java", "")));
        }
        if (!listed.equals(there)) Check.fail("README.md lists " + listed + ", there are " + there);
    }
}
