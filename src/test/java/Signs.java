import java.util.ArrayList;
import java.util.List;
import java.util.function.Consumer;

/** Tables of signs as plain rows, for tests that reckon by themselves what is due. */
final class Signs {
    static final int[] ANGLES = {3, 5, 7, 9};

    private Signs() {
    }

    /** The table whose signs of i below j are -1 by the bits of a code, row by row. */
    static int[][] table(int n, long code) {
        int[][] t = new int[n][n];
        int bit = 0;
        for (int i = 0; i < n; i++) {
            for (int j = i + 1; j < n; j++, bit++) {
                t[i][j] = (code >> bit & 1) == 0 ? 1 : -1;
                t[j][i] = t[i][j];
            }
        }
        return t;
    }

    /** All tables of up to so many lines. */
    static void each(int most, Consumer<int[][]> test) {
        for (int n = 0; n <= most; n++) eachOf(n, test);
    }

    static void eachOf(int n, Consumer<int[][]> test) {
        for (int code = 0; code < 1 << n * (n - 1) / 2; code++) test.accept(table(n, code));
    }

    /** All tables of up to five lines, and those of six whose line 0 has all signs 1: every other of six is like one of them. */
    static void eachToSix(Consumer<int[][]> test) {
        each(5, test);
        for (int code = 0; code < 1 << 15; code += 1 << 5) test.accept(table(6, code));
    }

    /** Some tables of every number of lines up to ten. */
    static void some(Consumer<int[][]> test) {
        for (int n = 0; n <= 10; n++) {
            for (int k = 1; k <= 40; k++) test.accept(table(n, k * 0x9E3779B97F4A7C15L >>> 7));
        }
    }

    static EvenLines object(int[][] t, int angle) {
        EvenLines x = new EvenLines();
        x.angle(angle);
        x.lines(t.length);
        for (int i = 0; i < t.length; i++) {
            for (int j = i + 1; j < t.length; j++) if (t[i][j] == -1) x.sign(i, j, -1);
        }
        return x;
    }

    static EvenLines object(int[][] t) {
        return object(t, 3);
    }

    static int[][] tableOf(EvenLines x) {
        int n = x.count(0);
        int[][] t = new int[n][n];
        for (int i = 0; i < n; i++) for (int j = 0; j < n; j++) t[i][j] = x.at(i, j);
        return t;
    }

    static int[][] shape(int[][] t, int angle) {
        int[][] s = copy(t);
        for (int i = 0; i < t.length; i++) s[i][i] = angle;
        return s;
    }

    static int[][] copy(int[][] t) {
        int[][] made = new int[t.length][];
        for (int i = 0; i < t.length; i++) made[i] = t[i].clone();
        return made;
    }

    static int[][] turned(int[][] t, int line) {
        int[][] made = copy(t);
        for (int i = 0; i < t.length; i++) {
            made[i][line] = -t[i][line];
            made[line][i] = made[i][line];
        }
        return made;
    }

    static int[][] numbered(int[][] t, int[] numbers) {
        int[][] made = new int[t.length][t.length];
        for (int i = 0; i < t.length; i++) for (int j = 0; j < t.length; j++) made[i][j] = t[numbers[i]][numbers[j]];
        return made;
    }

    static List<int[]> numberings(int n) {
        List<int[]> all = new ArrayList<>();
        all.add(new int[0]);
        for (int k = 0; k < n; k++) {
            List<int[]> longer = new ArrayList<>();
            for (int[] p : all) {
                for (int place = 0; place <= k; place++) {
                    int[] made = new int[k + 1];
                    System.arraycopy(p, 0, made, 0, place);
                    made[place] = k;
                    System.arraycopy(p, place, made, place + 1, k - place);
                    longer.add(made);
                }
            }
            all = longer;
        }
        return all;
    }

    /** The determinant of the lines of a set and the same columns, by the first of them. */
    static long determinant(int[][] m, int rows, int columns) {
        if (rows == 0) return 1;
        int row = Integer.numberOfTrailingZeros(rows);
        long sum = 0;
        int sign = 1;
        for (int c = 0; c < m.length; c++) {
            if ((columns >> c & 1) != 0) {
                if (m[row][c] != 0) sum += sign * m[row][c] * determinant(m, rows & rows - 1, columns & ~(1 << c));
                sign = -sign;
            }
        }
        return sum;
    }
}
