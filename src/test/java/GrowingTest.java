/** Promises 16 to 19. */
public final class GrowingTest {
    private static final int BAD = EvenLines.BAD, NOT = EvenLines.NOT, FULL = EvenLines.FULL;
    private static final int LEAST = Integer.MIN_VALUE, MOST = Integer.MAX_VALUE;

    public static void main(String[] args) {
        goes();
        ways();
        put();
        grow();
        growsAsTheModelDoes();
        Check.end();
    }

    private static EvenLines made(int n, int angle) {
        EvenLines x = new EvenLines();
        x.lines(n);
        x.angle(angle);
        return x;
    }

    private static void goes() {
        EvenLines x = made(2, 3);
        x.sign(0, 1, -1);
        Check.due("a third line goes in three dimensions", x.goes(2, 3), 1);
        Check.due("and not in two", x.goes(2, 2), 0);
        x.put(0);
        x.sign(0, 2, -1);
        x.sign(1, 2, -1);
        Check.due("the fourth diagonal of a cube", x.goes(0, 3), 1);
        Check.due("no diagonal of a cube", x.goes(6, 3), 0);
        Check.due("the same with line 0 having all signs 1", turnedCube().goes(6, 3), 1);
        Check.due("nothing was put", x.count(0), 3);
        int[][] wrong = {{1, 3}, {3, 3}, {8, 3}, {-2, 3}, {LEAST, 3}, {MOST, 3}, {2, 0}, {2, 21}, {2, -1}, {2, MOST}};
        for (int[] w : wrong) {
            Check.due("goes " + w[0] + " " + w[1], x.goes(w[0], w[1]), BAD);
        }
        Check.due("goes in 20", x.goes(2, 20) >= 0 ? 1 : 0, 1);
        EvenLines none = made(0, 3);
        Check.due("to no lines", none.goes(0, 3), NOT);
        Check.due("to no lines, bits of none", none.goes(2, 3), BAD);
        Check.due("to no lines, bit 0", none.goes(1, 3), BAD);
        Check.due("to no lines in 0 dimensions", none.goes(0, 0), BAD);
        EvenLines full = made(10, 3);
        Check.due("to 10 lines", full.goes(1022, 3), FULL);
        Check.due("to 10 lines, bits of none", full.goes(1024, 3), BAD);
        Check.due("to 10 lines, bit 0", full.goes(1, 3), BAD);
    }

    /** Three diagonals of a cube, line 0 having all signs 1. */
    private static EvenLines turnedCube() {
        EvenLines x = made(3, 3);
        x.sign(1, 2, -1);
        return x;
    }

    private static void ways() {
        Check.due("two lines' ways in three dimensions", made(2, 3).ways(3), 2);
        Check.due("two lines' ways in two", made(2, 3).ways(2), 0);
        Check.due("one line's ways", made(1, 3).ways(2), 1);
        Check.due("one line's ways in one", made(1, 3).ways(1), 0);
        EvenLines x = made(5, 3);
        for (int d = 0; d <= 21; d++) {
            int going = 0;
            for (int bits = 0; bits < 32; bits += 2) {
                going += x.goes(bits, d) == 1 ? 1 : 0;
            }
            Check.due("ways " + d, x.ways(d), d < 1 || d > 20 ? BAD : going);
        }
        Check.due("of no lines", made(0, 3).ways(3), NOT);
        Check.due("of no lines, wrong", made(0, 3).ways(21), BAD);
        Check.due("of 10 lines", made(10, 3).ways(20), FULL);
        Check.due("of 10 lines, wrong", made(10, 3).ways(0), BAD);
        Model m = new Model();
        m.lines(9);
        m.angle(5);
        Check.due("of nine lines", made(9, 5).ways(10), m.ways(10));
    }

    private static void put() {
        EvenLines x = made(0, 3);
        Check.due("to no lines, bit 0", x.put(1), BAD);
        Check.due("to no lines, bit 1", x.put(2), BAD);
        Check.due("to no lines", x.put(0), 0);
        Check.due("to one line, bit 0", x.put(1), BAD);
        Check.due("to one line", x.put(0), 1);
        Check.due("to two lines", x.put(2), 2);
        Check.due("at(2, 0)", x.at(2, 0), 1);
        Check.due("at(2, 1)", x.at(2, 1), -1);
        Check.due("at(1, 2)", x.at(1, 2), -1);
        Check.due("at(2, 2)", x.at(2, 2), 0);
        Check.due("a line that is not there", x.put(8), BAD);
        Check.due("least", x.put(LEAST), BAD);
        Check.due("-2", x.put(-2), BAD);
        x.lines(9);
        Check.due("the tenth", x.put(510), 9);
        Check.due("its signs", x.count(2), 8);
        Check.due("the eleventh", x.put(0), FULL);
        Check.due("the eleventh, its last bit", x.put(512), FULL);
        Check.due("the eleventh, wrong", x.put(1), BAD);
        Check.due("the eleventh, bits of none", x.put(1024), BAD);
        Check.due("ten are there", x.count(0), 10);
    }

    private static void grow() {
        EvenLines x = turnedCube();
        Check.due("the cube's diagonals", x.grow(3), 4);
        Check.due("the fourth's signs", x.at(1, 3) + x.at(2, 3), -2);
        Check.due("in three dimensions", x.rank(), 3);
        int[] wrong = {0, -1, 21, LEAST, MOST};
        for (int d : wrong) {
            Check.due("grow " + d, x.grow(d), BAD);
            Check.due("grow of no lines " + d, made(0, 3).grow(d), BAD);
        }
        Check.due("no lines", made(0, 3).grow(3), NOT);
        EvenLines bad = made(5, 3);
        for (int i = 0; i < 5; i++) {
            for (int j = 0; j < i; j++) {
                bad.sign(i, j, -1);
            }
        }
        Check.due("lines that do not lie", bad.grow(20), NOT);
        Check.due("too many dimensions", made(3, 3).grow(2), NOT);
        Check.due("nothing changed", bad.count(0), 5);
        Check.due("one line in one dimension", made(1, 3).grow(1), 1);
        Check.due("to ten", made(1, 3).grow(20), 10);
        Check.due("ten that lie stay ten", made(10, 3).grow(10), 10);
        Check.due("ten in too few dimensions", made(10, 3).grow(9), NOT);
    }

    private static void growsAsTheModelDoes() {
        for (int angle = 3; angle <= 9; angle += 2) {
            for (int d = 1; d <= 11; d++) {
                for (int n = 1; n <= 4; n++) {
                    EvenLines x = made(n, angle);
                    Model m = new Model();
                    m.lines(n);
                    m.angle(angle);
                    if (n == 4) {
                        x.sign(2, 3, -1);
                        m.sign(2, 3, -1);
                    }
                    Check.due("grow " + n + " " + d + " " + angle, x.grow(d), m.grow(d));
                    Check.due("digest " + n + " " + d + " " + angle, x.digest(), m.digest());
                }
            }
        }
    }
}
