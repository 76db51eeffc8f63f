/** Promises 1 to 9. */
public final class TablesTest {
    private static final int BAD = EvenLines.BAD;
    private static final int LEAST = Integer.MIN_VALUE, MOST = Integer.MAX_VALUE;

    public static void main(String[] args) {
        newObject();
        lines();
        signAndAt();
        turn();
        change();
        odd();
        together();
        regular();
        allTablesTo(6);
        Check.end();
    }

    private static EvenLines made(int n) {
        EvenLines x = new EvenLines();
        x.lines(n);
        return x;
    }

    private static void newObject() {
        EvenLines x = new EvenLines();
        Check.due("new count(0)", x.count(0), 0);
        Check.due("new count(1)", x.count(1), 3);
        Check.due("new count(2)", x.count(2), 0);
        Check.due("new count(3)", x.count(3), 0);
        Check.due("new at(0, 0)", x.at(0, 0), BAD);
        for (int s = 0; s < 4; s++) {
            Check.due("new lose", x.lose(s), -11);
        }
    }

    private static void lines() {
        EvenLines x = new EvenLines();
        Check.due("lines(10)", x.lines(10), 0);
        x.sign(8, 9, -1);
        Check.due("lines(11)", x.lines(11), BAD);
        Check.due("lines(-1)", x.lines(-1), BAD);
        Check.due("lines(least)", x.lines(LEAST), BAD);
        Check.due("lines(most)", x.lines(MOST), BAD);
        Check.due("nothing changed", x.at(8, 9), -1);
        Check.due("lines(10) again", x.lines(10), 10);
        Check.due("all signs are 1", x.count(2), 0);
        Check.due("lines(0)", x.lines(0), 10);
        Check.due("lines(1)", x.lines(1), 0);
    }

    private static void signAndAt() {
        EvenLines x = made(3);
        Check.due("sign", x.sign(2, 0, -1), 1);
        Check.due("sign again", x.sign(0, 2, 1), -1);
        Check.due("sign once more", x.sign(0, 2, -1), 1);
        int[][] wrong = {{0, 0, 1}, {-1, 0, 1}, {0, 3, 1}, {3, 0, -1}, {0, 1, 0}, {0, 1, 2}, {0, 1, -2}, {LEAST, MOST, 1}, {0, 1, MOST}};
        for (int[] w : wrong) {
            Check.due("sign, wrong", x.sign(w[0], w[1], w[2]), BAD);
        }
        int[][] table = {{0, 1, -1}, {1, 0, 1}, {-1, 1, 0}};
        for (int i = 0; i < 3; i++) {
            for (int j = 0; j < 3; j++) {
                Check.due("at " + i + " " + j, x.at(i, j), table[i][j]);
            }
        }
        Check.due("at(3, 0)", x.at(3, 0), BAD);
        Check.due("at(0, 3)", x.at(0, 3), BAD);
        Check.due("at(-1, 0)", x.at(-1, 0), BAD);
        Check.due("at(0, least)", x.at(0, LEAST), BAD);
    }

    private static void turn() {
        EvenLines x = made(4);
        x.sign(1, 2, -1);
        Check.due("turn", x.turn(1), 2);
        Check.due("at(1, 0)", x.at(1, 0), -1);
        Check.due("at(0, 1)", x.at(0, 1), -1);
        Check.due("at(1, 1)", x.at(1, 1), 0);
        Check.due("at(1, 2)", x.at(1, 2), 1);
        Check.due("at(3, 1)", x.at(3, 1), -1);
        Check.due("turned back", x.turn(1), 1);
        Check.due("turn(4)", x.turn(4), BAD);
        Check.due("turn(-1)", x.turn(-1), BAD);
        Check.due("turn of one line", made(1).turn(0), 0);
        Check.due("turn of none", made(0).turn(0), BAD);
    }

    private static void change() {
        EvenLines x = made(4);
        x.sign(0, 1, -1);
        x.sign(0, 2, -1);
        Check.due("change", x.change(0, 3), 1);
        int[][] table = {{0, 1, 1, 1}, {1, 0, 1, -1}, {1, 1, 0, -1}, {1, -1, -1, 0}};
        for (int i = 0; i < 4; i++) {
            for (int j = 0; j < 4; j++) {
                Check.due("at " + i + " " + j, x.at(i, j), table[i][j]);
            }
        }
        Check.due("change of lines with -1 between them", x.change(3, 1), 1);
        Check.due("keeps it", x.at(1, 3), -1);
        Check.due("and moves the other", x.at(1, 2), -1);
        long before = x.digest();
        Check.due("change(2, 2)", x.change(2, 2), 1);
        Check.due("change(4, 0)", x.change(4, 0), BAD);
        Check.due("change(0, -1)", x.change(0, -1), BAD);
        Check.due("change(4, 4)", x.change(4, 4), BAD);
        Check.due("nothing changed", x.digest(), before);
    }

    private static void odd() {
        for (int n = 0; n < 3; n++) {
            Check.due("no triples", made(n).odd(), 0);
        }
        EvenLines x = made(10);
        Check.due("all signs 1", x.odd(), 0);
        for (int i = 0; i < 10; i++) {
            for (int j = 0; j < i; j++) {
                x.sign(i, j, -1);
            }
        }
        Check.due("all signs -1", x.odd(), 120);
        x.turn(4);
        Check.due("turning leaves it", x.odd(), 120);
        x.sign(0, 1, 1);
        Check.due("one sign changed", x.odd(), 112);
    }

    private static void together() {
        EvenLines x = made(5);
        x.sign(0, 1, -1);
        Check.due("together(0, 1)", x.together(0, 1), 3);
        Check.due("together(1, 0)", x.together(1, 0), 3);
        Check.due("together(0, 2)", x.together(0, 2), 1);
        Check.due("together(3, 4)", x.together(3, 4), 0);
        Check.due("together(2, 2)", x.together(2, 2), BAD);
        Check.due("together(0, 5)", x.together(0, 5), BAD);
        Check.due("together(-1, 0)", x.together(-1, 0), BAD);
    }

    private static void regular() {
        for (int n = 0; n < 3; n++) {
            Check.due("regular, few", made(n).regular(), 1);
        }
        EvenLines x = made(6);
        Check.due("regular, all 1", x.regular(), 1);
        for (int i = 1; i < 6; i++) {
            x.sign(i, i % 5 + 1, -1);
        }
        Check.due("six diagonals of an icosahedron", x.regular(), 1);
        Check.due("with two odd triples each", x.together(2, 5), 2);
        x.sign(0, 3, -1);
        Check.due("one sign changed", x.regular(), 0);
    }

    private static void allTablesTo(int most) {
        for (int n = 2; n <= most; n++) {
            for (int code = 0; code < 1 << n * (n - 1) / 2; code++) {
                EvenLines x = made(n);
                Model m = new Model();
                m.lines(n);
                for (int i = 0, bit = 0; i < n; i++) {
                    for (int j = 0; j < i; j++, bit++) {
                        int v = (code >> bit & 1) == 0 ? 1 : -1;
                        x.sign(i, j, v);
                        m.sign(i, j, v);
                    }
                }
                String of = " of " + n + " lines, table " + code;
                Check.due("odd" + of, x.odd(), m.odd());
                Check.due("together" + of, x.together(0, n - 1), m.together(0, n - 1));
                Check.due("regular" + of, x.regular(), m.regular());
            }
        }
    }
}
