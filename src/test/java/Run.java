import java.lang.reflect.Array;
import java.lang.reflect.Method;
import java.util.ArrayList;
import java.util.HashMap;
import java.util.List;
import java.util.Map;

/**
 * A run of calls on a new object, told by their names, so that a wrong answer is printed with the run before it.
 * Each check makes the object anew: what a refused call left is compared with an object that never had that call.
 */
final class Run {
    static final int NONE = -1, BAD = -2, NOT = -3, FULL = -4;
    static final int NULL = -11, INDEX = -12, CAST = -13, STORE = -14, SIZE = -15;
    static final int LEAST = Integer.MIN_VALUE, MOST = Integer.MAX_VALUE;
    static final long BAD_LONG = Long.MIN_VALUE + 2;

    /** Stands for the argument that a range is about. */
    static final int HERE = 1234567890;

    /** An object promises nothing after its 512th call. */
    private static final int LAST_CALL = 512;
    private static final int[] NUMBERS = {LEAST, LEAST + 1, -2, -1, 0, 1, 2, 9, 10, 11, MOST - 1, MOST};
    private static final Map<String, Method> METHODS = new HashMap<>();
    private static final Map<String, Method> MODEL_METHODS = new HashMap<>();

    static {
        for (Method m : EvenLines.class.getMethods()) {
            if (m.getDeclaringClass() == EvenLines.class) METHODS.put(m.getName(), m);
        }
        try {
            for (Method m : METHODS.values()) {
                MODEL_METHODS.put(m.getName(), Model.class.getDeclaredMethod(m.getName(), m.getParameterTypes()));
            }
        } catch (ReflectiveOperationException e) {
            throw new IllegalStateException(e);
        }
    }

    private record Call(String name, int[] arguments) {
        String text() {
            StringBuilder text = new StringBuilder(name).append("(");
            for (int i = 0; i < arguments.length; i++) text.append(i == 0 ? "" : ", ").append(arguments[i]);
            return text.append(")").toString();
        }

        Call with(int number) {
            int[] filled = arguments.clone();
            for (int i = 0; i < filled.length; i++) if (filled[i] == HERE) filled[i] = number;
            return new Call(name, filled);
        }
    }

    /** An object with the number of calls that it has had. */
    private static final class Counted {
        private final EvenLines x = new EvenLines();
        private int calls = 0;

        long call(String name, int... arguments) {
            calls++;
            if (calls > LAST_CALL) throw new IllegalStateException("a test goes beyond the last call that is promised");
            return invoke(METHODS, x, new Call(name, arguments));
        }
    }

    private final List<Call> calls;

    private Run(List<Call> calls) {
        this.calls = calls;
    }

    static Run start() {
        return new Run(new ArrayList<>());
    }

    /** The run with one call more, whatever it answers. */
    Run then(String name, int... arguments) {
        List<Call> longer = new ArrayList<>(calls);
        longer.add(new Call(name, arguments));
        return new Run(longer);
    }

    long answerOf(String name, int... arguments) {
        return made().call(name, arguments);
    }

    /** The next call answers so; the run with it. */
    Run answers(long want, String name, int... arguments) {
        Check.due(text(new Call(name, arguments)), answerOf(name, arguments), want);
        return then(name, arguments);
    }

    /** The next call is refused so and changes nothing, a finding but count(3); of get the finding is told, or BAD. */
    void refuses(long want, String name, int... arguments) {
        Call call = new Call(name, arguments);
        Counted with = made();
        Counted without = made();
        boolean isFinding = want <= NULL && want >= SIZE;
        Check.due(text(call), with.call(name, arguments), name.equals("get") ? LEAST : want);
        long before = without.call("count", 3);
        Check.due(text(call) + ", count(3)", with.call("count", 3), isFinding ? -10 - want : before);
        String left = stateOf(with);
        String due = stateOf(without);
        if (!left.equals(due)) Check.fail(text(call) + " left " + left + ", due is " + due);
    }

    /** The next call is not refused. */
    void takes(String name, int... arguments) {
        Call call = new Call(name, arguments);
        long answer = answerOf(name, arguments);
        if (isRefusal(name, answer)) Check.fail(text(call) + " answered " + answer + ", which refuses it");
    }

    /** The argument HERE is taken at both ends, and refused beside them and as the least and the greatest int. */
    void range(int from, int to, long want, String name, int... arguments) {
        Call call = new Call(name, arguments);
        takes(name, call.with(from).arguments);
        takes(name, call.with(to).arguments);
        for (int number : new int[] {from - 1, to + 1, LEAST, MOST}) {
            if (number < from || number > to) refuses(want, name, call.with(number).arguments);
        }
    }

    /** There is nothing that the argument HERE may be. */
    void never(long want, String name, int... arguments) {
        for (int number : NUMBERS) refuses(want, name, new Call(name, arguments).with(number).arguments);
    }

    private Counted made() {
        Counted x = new Counted();
        for (Call call : calls) x.call(call.name, call.arguments);
        return x;
    }

    private static long invoke(Map<String, Method> methods, Object on, Call call) {
        Object[] boxed = new Object[call.arguments.length];
        for (int i = 0; i < boxed.length; i++) boxed[i] = call.arguments[i];
        try {
            return ((Number) methods.get(call.name).invoke(on, boxed)).longValue();
        } catch (ReflectiveOperationException e) {
            throw new IllegalStateException(call.text(), e);
        }
    }

    private String text(Call last) {
        StringBuilder text = new StringBuilder();
        for (Call call : calls) text.append(call.text()).append("; ");
        return text.append(last.text()).toString();
    }

    private static boolean isRefusal(String name, long answer) {
        if (name.equals("sums")) return answer <= Long.MIN_VALUE + 15;
        if (name.equals("get")) return answer == LEAST;
        return answer <= BAD && answer >= FULL || answer <= NULL && answer >= SIZE;
    }

    /**
     * All that an object holds but the latest finding. What there is to read, the model tells: a refused call that
     * is made to find it out could change what it should show. So the rows are lost last, and lost ones after them.
     */
    private String stateOf(Counted x) {
        Model m = modelled();
        StringBuilder text = new StringBuilder();
        for (int what = 0; what < 3; what++) text.append(x.call("count", what)).append(" ");
        int n = m.t.length;
        for (int i = 0; i < n; i++) for (int j = 0; j < n; j++) text.append(x.call("at", i, j)).append(" ");
        text.append(x.call("digest"));
        for (int s = 0; s < 4; s++) text.append("; ").append(itemsOf(x, s, m.sheets[s]));
        for (int s = 0; s < 4; s++) text.append(formOfNoItems(x, s, m.sheets[s]));
        for (int s = 0; s < 4; s++) if (m.sheets[s] != null) text.append("; ").append(x.call("lose", s));
        for (int s = 0; s < 4; s++) if (m.sheets[s] == null) text.append("; ").append(x.call("lose", s));
        return text.toString();
    }

    private static List<Long> itemsOf(Counted x, int s, Object row) {
        List<Long> items = new ArrayList<>();
        int size = row == null ? 0 : Array.getLength(row);
        for (int i = 0; i < size; i++) items.add(x.call("get", s, formOf(row), i));
        return items;
    }

    private static int formOf(Object row) {
        return row instanceof byte[] ? 0 : row instanceof short[] ? 1 : 2;
    }

    /** A row of no items shows its form by the finding alone. */
    private static String formOfNoItems(Counted x, int s, Object row) {
        if (row == null || Array.getLength(row) > 0) return "";
        x.call("get", s, formOf(row), 0);
        return "; finding " + x.call("count", 3);
    }

    private Model modelled() {
        Model m = new Model();
        for (Call call : calls) invoke(MODEL_METHODS, m, call);
        return m;
    }
}
