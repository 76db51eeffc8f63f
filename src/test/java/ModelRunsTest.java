import java.util.Random;

/** All promises: long runs of calls, right ones and wrong ones, on the class and on the model side by side. */
public final class ModelRunsTest {
    private static final int[] EDGES = {Integer.MIN_VALUE, -129, -2, -1, 0, 1, 2, 128, 32768, 65535, Integer.MAX_VALUE};

    /** An object promises nothing after its 512th call. */
    private static final int LAST_CALL = 512, MOST_CALLS_AT_ONCE = 20;

    private final EvenLines x = new EvenLines();
    private final Model m = new Model();
    private final Random random;
    private final int run;
    private int calls = 0;

    private ModelRunsTest(int seed) {
        random = new Random(seed);
        run = seed;
    }

    public static void main(String[] args) {
        for (int seed = 0; seed < 600; seed++) {
            ModelRunsTest test = new ModelRunsTest(seed);
            while (test.calls < LAST_CALL - MOST_CALLS_AT_ONCE) {
                test.one();
                test.sameState();
            }
        }
        Check.end();
    }

    /** A number from a to b, now and then one beside them or far off. */
    private int near(int a, int b) {
        int kind = random.nextInt(24);
        if (kind == 0) return a - 1;
        if (kind == 1) return b + 1;
        if (kind == 2) return EDGES[random.nextInt(EDGES.length)];
        return a + random.nextInt(Math.max(1, b - a + 1));
    }

    private int line() {
        return near(0, m.t.length - 1);
    }

    private int row() {
        return near(0, (1 << m.t.length) - 1) & (random.nextInt(12) == 0 ? -1 : -2);
    }

    private int setOf(int v) {
        return near(0, v < 1 || v > 30 ? Integer.MAX_VALUE : (1 << v) - 1);
    }

    private void due(String call, long got, long want) {
        calls++;
        Check.due("run " + run + ", call " + calls + ", " + call, got, want);
    }

    private void sameState() {
        due("digest", x.digest(), m.digest());
        due("count 3", x.count(3), m.count(3));
    }

    private void one() {
        switch (random.nextInt(8)) {
            case 0: tables(); break;
            case 1: tables(); break;
            case 2: shapes(); break;
            case 3: growing(); break;
            case 4: names(); break;
            case 5: sets(); break;
            default: sheets(); break;
        }
    }

    private void tables() {
        int i = line(), j = line();
        switch (random.nextInt(12)) {
            case 0: int n = near(0, 10); due("lines " + n, x.lines(n), m.lines(n)); break;
            case 1: case 2: case 3: case 4:
                int v = near(-1, 1);
                due("sign " + i + " " + j + " " + v, x.sign(i, j, v), m.sign(i, j, v));
                break;
            case 5: due("at " + i + " " + j, x.at(i, j), m.at(i, j)); break;
            case 6: due("turn " + i, x.turn(i), m.turn(i)); break;
            case 7: due("change " + i + " " + j, x.change(i, j), m.change(i, j)); break;
            case 8: due("odd", x.odd(), m.odd()); break;
            case 9: due("together " + i + " " + j, x.together(i, j), m.together(i, j)); break;
            case 10: due("count", x.count(i), m.count(i)); break;
            default: due("regular", x.regular(), m.regular()); break;
        }
    }

    private void shapes() {
        int k = near(0, m.t.length), w = near(0, 1), d = near(1, 20), o = near(-20, 20), a = near(3, 9);
        switch (random.nextInt(8)) {
            case 0: due("angle " + a, x.angle(a), m.angle(a)); break;
            case 1: due("sums " + w + " " + k, x.sums(w, k), m.sums(w, k)); break;
            case 2: due("own " + o, x.own(o), m.own(o)); break;
            case 3: int p = near(-5, 5); due("own " + p, x.own(p), m.own(p)); break;
            case 4: due("lies", x.lies(), m.lies()); break;
            case 5: due("rank", x.rank(), m.rank()); break;
            default: due("bound " + d, x.bound(d), m.bound(d)); break;
        }
    }

    private void growing() {
        int d = random.nextInt(4) == 0 ? near(1, 20) : near(3, 8), bits = row();
        switch (random.nextInt(8)) {
            case 0: due("grow " + d, x.grow(d), m.grow(d)); break;
            case 1: due("ways " + d, x.ways(d), m.ways(d)); break;
            case 2: case 3: due("put " + bits, x.put(bits), m.put(bits)); break;
            case 4: int n = near(1, 5); due("lines " + n, x.lines(n), m.lines(n)); break;
            default: due("goes " + bits + " " + d, x.goes(bits, d), m.goes(bits, d)); break;
        }
    }

    private void names() {
        int n = near(1, 4);
        switch (random.nextInt(12)) {
            case 0: due("plain", x.plain(), m.plain()); break;
            case 1: due("kinds " + n, x.kinds(n), m.kinds(n)); break;
            case 2: case 3: due("group", x.group(), m.group()); break;
            case 4: due("name", x.name(), m.name()); break;
            default: due("change 0 1", x.change(0, 1), m.change(0, 1)); break;
        }
    }

    private void sets() {
        int v = near(2, 31), bits = setOf(v), step = near(1, v - 1), k = near(1, v), u = near(2, 9), q = near(1, u);
        int small = near(2, 7), few = setOf(small);
        switch (random.nextInt(7)) {
            case 0: due("hits " + v + " " + bits + " " + step, x.hits(v, bits, step), m.hits(v, bits, step)); break;
            case 1: due("even " + v + " " + bits, x.even(v, bits), m.even(v, bits)); break;
            case 2: due("even " + small + " " + few, x.even(small, few), m.even(small, few)); break;
            case 3: due("welch " + v + " " + k, x.welch(v, k), m.welch(v, k)); break;
            case 4: due("multipliers " + v + " " + bits, x.multipliers(v, bits), m.multipliers(v, bits)); break;
            case 5: due("multipliers " + small + " " + few, x.multipliers(small, few), m.multipliers(small, few)); break;
            default: due("find " + u + " " + q, x.find(u, q), m.find(u, q)); break;
        }
    }

    private void sheets() {
        int s = near(0, 3), form = near(0, 2), n = random.nextInt(3) == 0 ? near(0, 100) : near(0, 12);
        int i = near(0, 8), j = near(0, 8), lines = near(0, 6), u = near(0, 3), v = random.nextBoolean() ? near(-300, 300) : random.nextInt();
        switch (random.nextInt(12)) {
            case 0: case 1: case 2:
                due("sheet " + s + " " + form + " " + n, x.sheet(s, form, n), m.sheet(s, form, n));
                break;
            case 3: due("lose " + s, x.lose(s), m.lose(s)); break;
            case 4: case 5: case 6:
                due("lay " + s + " " + form + " " + i + " " + v, x.lay(s, form, i, v), m.lay(s, form, i, v));
                break;
            case 7: due("get " + s + " " + form + " " + i, x.get(s, form, i), m.get(s, form, i)); break;
            case 8: case 9:
                int some = near(0, 6);
                due("copy " + s + " " + i + " " + u + " " + j + " " + some, x.copy(s, i, u, j, some), m.copy(s, i, u, j, some));
                break;
            case 10: due("load " + s + " " + lines, x.load(s, lines), m.load(s, lines)); break;
            default: due("write " + s, x.write(s), m.write(s)); break;
        }
        int f = near(0, 2);
        for (int k = 0; k < 12; k++) due("get " + s + " " + f + " " + k, x.get(s, f, k), m.get(s, f, k));
    }
}
