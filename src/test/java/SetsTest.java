/** Promises 24 to 28. */
public final class SetsTest {
    private static final int BAD = EvenLines.BAD, NONE = EvenLines.NONE;
    private static final int LEAST = Integer.MIN_VALUE, MOST = Integer.MAX_VALUE;

    public static void main(String[] args) {
        hits();
        even();
        welch();
        multipliers();
        find();
        allSmallSets();
        Check.end();
    }

    private static void hits() {
        EvenLines x = new EvenLines();
        Check.due("hits(5, 3, 1)", x.hits(5, 3, 1), 1);
        Check.due("hits(5, 3, 4)", x.hits(5, 3, 4), 1);
        Check.due("hits(5, 3, 2)", x.hits(5, 3, 2), 0);
        Check.due("hits(4, 5, 2): both ways", x.hits(4, 5, 2), 2);
        Check.due("hits(31, ends, 30)", x.hits(31, 1 << 30 | 1, 30), 1);
        Check.due("hits(31, ends, 15)", x.hits(31, 1 << 30 | 1, 15), 0);
        Check.due("hits(31, all, 16)", x.hits(31, MOST, 16), 31);
        Check.due("hits(2, 3, 1)", x.hits(2, 3, 1), 2);
        int[][] wrong = {{1, 1, 1}, {0, 0, 1}, {32, 1, 1}, {-5, 1, 1}, {LEAST, 1, 1}, {MOST, 1, 1}, {5, 32, 1}, {5, -1, 1},
            {31, LEAST, 1}, {31, -1, 1}, {5, 3, 0}, {5, 3, 5}, {5, 3, -1}, {5, 3, LEAST}, {5, 3, MOST}};
        for (int[] w : wrong) {
            Check.due("hits " + w[0] + " " + w[1] + " " + w[2], x.hits(w[0], w[1], w[2]), BAD);
        }
    }

    private static void even() {
        EvenLines x = new EvenLines();
        Check.due("a plane of order 2", x.even(7, 1 | 2 | 8), 1);
        Check.due("a plane of order 5", x.even(31, 1 << 1 | 1 << 5 | 1 << 11 | 1 << 24 | 1 << 25 | 1 << 27), 1);
        Check.due("the squares of 11", x.even(11, 1 << 1 | 1 << 3 | 1 << 4 | 1 << 5 | 1 << 9), 2);
        Check.due("no plane", x.even(7, 1 | 2 | 4), NONE);
        Check.due("one number", x.even(31, 1 << 30), 0);
        Check.due("none", x.even(31, 0), 0);
        Check.due("both of 2", x.even(2, 3), 2);
        int[][] wrong = {{1, 0}, {32, 0}, {-1, 0}, {2, 4}, {30, 1 << 30}, {31, -1}, {31, LEAST}, {LEAST, 0}, {MOST, 0}};
        for (int[] w : wrong) {
            Check.due("even " + w[0] + " " + w[1], x.even(w[0], w[1]), BAD);
            Check.due("multipliers " + w[0] + " " + w[1], x.multipliers(w[0], w[1]), BAD);
        }
    }

    private static void welch() {
        Check.due("welch(7, 3)", new EvenLines().welch(7, 3), 222222);
        Check.due("welch(31, 1)", new EvenLines().welch(31, 1), 1000000);
        Check.due("welch(31, 30)", new EvenLines().welch(31, 30), 1111);
        Check.due("welch(31, 31)", new EvenLines().welch(31, 31), 0);
        Model m = new Model();
        for (int v = 0; v <= 33; v++) {
            EvenLines x = new EvenLines();
            for (int k = -1; k <= v + 2; k++) {
                Check.due("welch " + v + " " + k, x.welch(v, k), m.welch(v, k));
            }
        }
        Check.due("welch(least, most)", new EvenLines().welch(LEAST, MOST), BAD);
        Check.due("welch(7, least)", new EvenLines().welch(7, LEAST), BAD);
    }

    private static void multipliers() {
        EvenLines x = new EvenLines();
        Check.due("of a plane of order 2", x.multipliers(7, 11), 3);
        Check.due("of the empty set round 12", x.multipliers(12, 0), 4);
        Check.due("of one number round 31", x.multipliers(31, 1 << 17), 30);
        Check.due("of all round 30", x.multipliers(30, (1 << 30) - 1), 8);
        Check.due("of 0 and 1 round 9: 1 and 8", x.multipliers(9, 3), 2);
    }

    private static void find() {
        Model m = new Model();
        for (int v = 1; v <= 11; v++) {
            EvenLines x = new EvenLines();
            for (int k = 0; k <= v + 1; k++) {
                Check.due("find " + v + " " + k, x.find(v, k), m.find(v, k));
            }
        }
        EvenLines x = new EvenLines();
        Check.due("find(15, 8)", x.find(15, 8), m.find(15, 8));
        Check.due("find(15, 15)", x.find(15, 15), (1 << 15) - 1);
        Check.due("find(15, 14)", x.find(15, 14), (1 << 14) - 1);
        Check.due("find(15, 1)", x.find(15, 1), 1);
        Check.due("find(15, 5)", x.find(15, 5), NONE);
        Check.due("find(16, 4)", x.find(16, 4), BAD);
        Check.due("find(1, 1)", x.find(1, 1), BAD);
        Check.due("find(15, 16)", x.find(15, 16), BAD);
        Check.due("find(15, 0)", x.find(15, 0), BAD);
        Check.due("find(least, most)", x.find(LEAST, MOST), BAD);
        Check.due("find(31, 6)", x.find(31, 6), BAD);
    }

    private static void allSmallSets() {
        Model m = new Model();
        for (int v = 2; v <= 8; v++) {
            for (int bits = 0; bits < 1 << v; bits++) {
                EvenLines x = new EvenLines();
                String of = " " + v + " " + bits;
                Check.due("even" + of, x.even(v, bits), m.even(v, bits));
                Check.due("multipliers" + of, x.multipliers(v, bits), m.multipliers(v, bits));
                for (int step = 1; step < v; step++) {
                    Check.due("hits" + of + " " + step, x.hits(v, bits, step), m.hits(v, bits, step));
                }
            }
        }
    }
}
