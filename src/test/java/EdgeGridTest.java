import java.lang.reflect.Array;
import java.lang.reflect.Method;
import java.lang.reflect.Modifier;
import java.util.Arrays;

/**
 * All promises: every call with every combination of some numbers at and beside the limits, the least and the
 * greatest int among them, on the class and on the model: the answer and all that it leaves.
 */
public final class EdgeGridTest {
    private static final int LEAST = Integer.MIN_VALUE, MOST = Integer.MAX_VALUE;
    private static final int[] NUMBERS = {LEAST, LEAST + 1, -21, -20, -2, -1, 0, 1, 2, 3, 4, 5, 6, 7, 8, 9, 10, 11, 15, 16, 20, 21,
        31, 32, 100, 101, 510, 512, 1022, 1024, MOST};
    /** Where there are more than three arguments. */
    private static final int[] FEWER = {LEAST, -1, 0, 1, 2, 3, 4, MOST};

    public static void main(String[] args) throws ReflectiveOperationException {
        for (Method of : EvenLines.class.getDeclaredMethods()) {
            if (Modifier.isPublic(of.getModifiers())) {
                Method due = Model.class.getDeclaredMethod(of.getName(), of.getParameterTypes());
                int many = of.getParameterCount();
                for (int n : many > 3 ? new int[] {2} : many == 3 ? new int[] {0, 10} : new int[] {0, 1, 7, 8, 10}) {
                    goThrough(of, due, new Object[many], 0, n);
                }
            }
        }
        Check.end();
    }

    private static void goThrough(Method of, Method due, Object[] args, int place, int n) throws ReflectiveOperationException {
        if (place == args.length) {
            compare(of, due, args, n);
            return;
        }
        int[] numbers = args.length > 3 ? FEWER : NUMBERS;
        for (int number : numbers) {
            args[place] = number;
            goThrough(of, due, args, place + 1, n);
        }
    }

    private static void compare(Method of, Method due, Object[] args, int n) throws ReflectiveOperationException {
        EvenLines x = new EvenLines();
        Model m = new Model();
        begin(x, m, n);
        same(of, args, n, "", ((Number) of.invoke(x, args)).longValue(), ((Number) due.invoke(m, args)).longValue());
        same(of, args, n, ", count(3)", x.count(3), m.count(3));
        same(of, args, n, ", digest()", x.digest(), m.digest());
        for (int s = 0; s < 4; s++) {
            int form = m.sheets[s] instanceof byte[] ? 0 : m.sheets[s] instanceof short[] ? 1 : 2;
            int items = m.sheets[s] == null ? 0 : Math.min(4, Array.getLength(m.sheets[s]));
            for (int i = 0; i < items; i++) same(of, args, n, ", an item", x.get(s, form, i), m.get(s, form, i));
            same(of, args, n, ", lose", x.lose(s), m.lose(s));
        }
    }

    /** The text is made only where it is printed, as there are some hundred thousand calls. */
    private static void same(Method of, Object[] args, int n, String what, long got, long want) {
        if (got != want) Check.due("with " + n + " lines " + of.getName() + Arrays.toString(args) + what, got, want);
    }

    /** Sheet 0 is lost, 1 and 2 are shorts of two and three items, 3 is ints of four. */
    private static void begin(EvenLines x, Model m, int n) {
        x.lines(n);
        m.lines(n);
        if (n > 1) {
            x.sign(0, 1, -1);
            m.sign(0, 1, -1);
        }
        for (int s = 1; s < 4; s++) {
            int form = s == 3 ? 2 : 1;
            x.sheet(s, form, s + 1);
            m.sheet(s, form, s + 1);
            x.lay(s, form, s, -s);
            m.lay(s, form, s, -s);
        }
        x.sheet(0, 0, -1);
        m.sheet(0, 0, -1);
    }
}
