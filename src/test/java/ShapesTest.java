/** Promises 10 to 15. */
public final class ShapesTest {
    private static final int BAD = EvenLines.BAD;
    private static final long BAD_LONG = Long.MIN_VALUE + 2;
    private static final int LEAST = Integer.MIN_VALUE, MOST = Integer.MAX_VALUE;

    public static void main(String[] args) {
        angle();
        sums();
        own();
        liesAndRank();
        bound();
        allTablesOfFive();
        greatest();
        Check.end();
    }

    private static EvenLines made(int n) {
        EvenLines x = new EvenLines();
        x.lines(n);
        return x;
    }

    private static void angle() {
        EvenLines x = new EvenLines();
        Check.due("angle(9)", x.angle(9), 3);
        Check.due("angle(5)", x.angle(5), 9);
        int[] wrong = {2, 4, 6, 8, 10, 11, 1, 0, -3, LEAST, MOST};
        for (int a : wrong) {
            Check.due("angle " + a, x.angle(a), BAD);
        }
        Check.due("angle(7)", x.angle(7), 5);
        Check.due("angle(3)", x.angle(3), 7);
    }

    private static void sums() {
        EvenLines none = made(0);
        Check.due("e 0 of no lines", none.sums(0, 0), 1);
        Check.due("e 0 of no lines' shape", none.sums(1, 0), 1);
        Check.due("e 1 of no lines", none.sums(1, 1), BAD_LONG);
        EvenLines x = made(3);
        x.sign(0, 1, -1);
        long[] table = {1, 0, -3, -2};
        long[] shape = {1, 9, 24, 16};
        for (int k = 0; k <= 3; k++) {
            Check.due("e " + k + " of the table", x.sums(0, k), table[k]);
            Check.due("e " + k + " of the shape", x.sums(1, k), shape[k]);
        }
        x.angle(5);
        Check.due("e 3 by angle 5", x.sums(1, 3), 125 - 15 - 2);
        Check.due("e 3 of the table by any angle", x.sums(0, 3), -2);
        Check.due("e 4", x.sums(0, 4), BAD_LONG);
        Check.due("e -1", x.sums(0, -1), BAD_LONG);
        Check.due("what 2", x.sums(2, 0), BAD_LONG);
        Check.due("what -1", x.sums(-1, 0), BAD_LONG);
        Check.due("what most", x.sums(MOST, LEAST), BAD_LONG);
    }

    private static void own() {
        EvenLines x = made(10);
        Check.due("9 of all ones", x.own(9), 1);
        Check.due("-1 of all ones", x.own(-1), 9);
        Check.due("0 of all ones", x.own(0), 0);
        Check.due("own(20)", x.own(20), 0);
        Check.due("own(-20)", x.own(-20), 0);
        Check.due("own(21)", x.own(21), BAD);
        Check.due("own(-21)", x.own(-21), BAD);
        Check.due("own(least)", x.own(LEAST), BAD);
        Check.due("of one line", made(1).own(0), 1);
        Check.due("of no lines", made(0).own(0), 0);
    }

    private static void liesAndRank() {
        Check.due("no lines lie", made(0).lies(), 1);
        Check.due("in no dimensions", made(0).rank(), 0);
        Check.due("one line lies", made(1).lies(), 1);
        Check.due("in one dimension", made(1).rank(), 1);
        EvenLines x = made(4);
        allMinus(x, 4);
        Check.due("four diagonals of a cube lie", x.lies(), 1);
        Check.due("in three dimensions", x.rank(), 3);
        x.angle(5);
        Check.due("by angle 5 in four", x.rank(), 4);
        x.angle(3);
        x.lines(5);
        allMinus(x, 5);
        Check.due("five do not lie", x.lies(), 0);
        Check.due("the rank is told all the same", x.rank(), 5);
        x.angle(5);
        Check.due("by angle 5 they do", x.lies(), 1);
    }

    private static void allMinus(EvenLines x, int n) {
        for (int i = 0; i < n; i++) {
            for (int j = 0; j < i; j++) {
                x.sign(i, j, -1);
            }
        }
    }

    private static void bound() {
        EvenLines x = new EvenLines();
        int[] angles = {3, 5, 7, 9};
        for (int a : angles) {
            x.angle(a);
            for (int d = 1; d <= 20; d++) {
                int always = d * (d + 1) / 2;
                int due = d < a * a ? Math.min(always, d * (a * a - 1) / (a * a - d)) : always;
                Check.due("bound " + d + " by angle " + a, x.bound(d), due);
            }
            int[] wrong = {0, -1, 21, LEAST, MOST};
            for (int d : wrong) {
                Check.due("bound " + d, x.bound(d), BAD);
            }
        }
    }

    private static void allTablesOfFive() {
        for (int code = 0; code < 1 << 10; code++) {
            EvenLines x = made(5);
            Model m = new Model();
            m.lines(5);
            for (int i = 0, bit = 0; i < 5; i++) {
                for (int j = 0; j < i; j++, bit++) {
                    int v = (code >> bit & 1) == 0 ? 1 : -1;
                    x.sign(i, j, v);
                    m.sign(i, j, v);
                }
            }
            Check.due(code + " lies", x.lies(), m.lies());
            Check.due(code + " rank", x.rank(), m.rank());
            for (int k = 0; k <= 5; k++) {
                Check.due(code + " sums 0 " + k, x.sums(0, k), m.sums(0, k));
                Check.due(code + " sums 1 " + k, x.sums(1, k), m.sums(1, k));
            }
            for (int o = -5; o <= 5; o++) {
                Check.due(code + " own " + o, x.own(o), m.own(o));
            }
        }
    }

    /** All signs 1 by angle 9 give the greatest sums; the own numbers are 18 once and 8 nine times. */
    private static void greatest() {
        EvenLines x = made(10);
        x.angle(9);
        long of8 = 1;
        long before = 0;
        for (int k = 0; k <= 10; k++) {
            Check.due("greatest e " + k, x.sums(1, k), of8 + 18 * before);
            before = of8;
            of8 = of8 * 8 * (9 - k) / (k + 1);
        }
    }
}
