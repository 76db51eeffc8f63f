import java.lang.reflect.Constructor;
import java.lang.reflect.Field;
import java.lang.reflect.Method;
import java.lang.reflect.Modifier;
import java.nio.file.Files;
import java.nio.file.Path;
import java.util.Set;
import java.util.TreeSet;
import java.util.regex.Matcher;
import java.util.regex.Pattern;

/** The public face, neither more nor less, its headings, and the words that LANGUAGE.md leaves out. */
public final class FaceTest {
    private static final String[] FACE = {
        "int lines(int)", "int sign(int,int,int)", "int at(int,int)", "int turn(int)", "int change(int,int)", "int odd()",
        "int together(int,int)", "int regular()", "int angle(int)", "long sums(int,int)", "int own(int)", "int lies()",
        "int rank()", "int bound(int)", "int goes(int,int)", "int ways(int)", "int put(int)", "int grow(int)", "int name()",
        "int plain()", "int group()", "int kinds(int)", "int hits(int,int,int)", "int even(int,int)", "int welch(int,int)",
        "int multipliers(int,int)", "int find(int,int)", "int sheet(int,int,int)", "int lose(int)", "int lay(int,int,int,int)",
        "int get(int,int,int)", "int copy(int,int,int,int,int)", "int load(int,int)", "int write(int)", "int count(int)",
        "long digest()"};
    private static final String[] LEFT_OUT = {"\\bthrows?\\b", "\\btry\\b", "\\bcatch\\b", "\\bsynchronized\\b", "\\bassert\\b",
        "\\bimport\\b", "\\bpackage\\b", "\\bObject\\b", "->", "::", "Exact\\b", "\\bprotected\\b"};

    private static final String[][] HEADINGS = {
        {"tables", "lines", "sign", "at", "turn", "change", "odd", "together", "regular"},
        {"shapes", "angle", "sums", "own", "lies", "rank", "bound"},
        {"growing", "goes", "ways", "put", "grow"},
        {"names", "name", "plain", "group", "kinds"},
        {"sets", "hits", "even", "welch", "multipliers", "find"},
        {"sheets", "sheet", "lose", "lay", "get", "copy", "load", "write", "count", "digest"}};

    public static void main(String[] args) throws Exception {
        String text = Files.readString(Path.of("src/main/java/EvenLines.java"));
        constants();
        methods();
        fieldsAndConstructors();
        words(text);
        headings(text);
        noCallMakesAnObject(text);
        Check.end();
    }

    private static void constants() {
        Check.due("NONE", EvenLines.NONE, -1);
        Check.due("BAD", EvenLines.BAD, -2);
        Check.due("NOT", EvenLines.NOT, -3);
        Check.due("FULL", EvenLines.FULL, -4);
    }

    private static void methods() {
        Set<String> seen = new TreeSet<>();
        Set<String> publicNames = new TreeSet<>();
        for (Method m : EvenLines.class.getDeclaredMethods()) {
            if (!Modifier.isPrivate(m.getModifiers()) && !m.isSynthetic()) {
                StringBuilder text = new StringBuilder(m.getReturnType() + " " + m.getName() + "(");
                for (Class<?> p : m.getParameterTypes()) text.append(text.charAt(text.length() - 1) == '(' ? "" : ",").append(p);
                seen.add(text.append(")").toString());
                publicNames.add(m.getName());
                Check.due(m + " is public", m.getModifiers(), Modifier.PUBLIC);
            }
        }
        for (String wanted : FACE) Check.due(wanted + " is there", seen.contains(wanted) ? 1 : 0, 1);
        Check.due("the number of methods", seen.size(), FACE.length);
        for (Method m : EvenLines.class.getDeclaredMethods()) {
            if (Modifier.isPrivate(m.getModifiers())) {
                Check.due(m + " bears a public one's name", publicNames.contains(m.getName()) ? 1 : 0, 0);
            }
        }
        for (Class<?> inside : EvenLines.class.getDeclaredClasses()) {
            Check.due(inside + " is static", inside.getModifiers() & Modifier.STATIC, Modifier.STATIC);
            for (Method m : inside.getDeclaredMethods()) {
                Check.due(m + " bears a public one's name", publicNames.contains(m.getName()) ? 1 : 0, 0);
            }
        }
    }

    private static void fieldsAndConstructors() {
        Check.due("public final", EvenLines.class.getModifiers(), Modifier.PUBLIC | Modifier.FINAL);
        int open = 0;
        for (Field f : EvenLines.class.getDeclaredFields()) {
            if (!Modifier.isPrivate(f.getModifiers())) open++;
            if (Modifier.isStatic(f.getModifiers())) Check.due(f + " is final", f.getModifiers() & Modifier.FINAL, Modifier.FINAL);
        }
        Check.due("the number of public constants", open, 4);
        Constructor<?>[] constructors = EvenLines.class.getDeclaredConstructors();
        Check.due("the number of constructors", constructors.length, 1);
        Check.due("it is public", constructors[0].getModifiers(), Modifier.PUBLIC);
        Check.due("and takes nothing", constructors[0].getParameterCount(), 0);
    }

    private static String withoutComments(String text) {
        return text.replaceAll("(?s)/\\*.*?\\*/", " ").replaceAll("//[^\n]*", " ");
    }

    private static void words(String text) {
        String code = withoutComments(text);
        for (String word : LEFT_OUT) {
            Matcher found = Pattern.compile(word).matcher(code);
            Check.due("'" + word + "' is in the class", found.find() ? 1 : 0, 0);
        }
        Check.due("a number above 255 among the characters", text.chars().filter(c -> c > 255).count(), 0);
    }

    /** "Ahead of the calls .. the interface says: ---- ..": the headings and the calls stand in the document's order. */
    private static void headings(String text) {
        int at = 0;
        for (String[] part : HEADINGS) {
            for (int i = 0; i < part.length; i++) {
                String wanted = i == 0 ? "    // ---- " + part[0] + "\n" : "\n    public (int|long) " + part[i] + "\\(";
                Matcher found = Pattern.compile(wanted).matcher(text);
                if (!found.find(at)) {
                    Check.fail("'" + part[i] + "' is not where the document has it");
                    return;
                }
                at = found.end();
            }
        }
    }

    /** All calls of a run live in one room: objects are made where fields are, and in the constructor. */
    private static void noCallMakesAnObject(String text) {
        for (String line : withoutComments(text).split("\n")) {
            boolean field = line.matches("\\s+(private )?final \\S+ \\w+ = new [^;]+;");
            boolean made = line.contains("sheets[s] = new Sheet();");
            if (line.matches(".*\\b(new|clone|copyOf|copyOfRange)\\b.*") && !field && !made) Check.fail("a call makes an object: " + line.strip());
        }
    }
}
