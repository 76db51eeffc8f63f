import java.math.BigInteger;
import java.util.ArrayList;
import java.util.Arrays;
import java.util.HashMap;
import java.util.List;
import java.util.Map;
import java.util.TreeSet;

/** The terms 1 to 3, sentence by sentence: what is due is reckoned here from the sentence alone. */
public final class LineTermsTest {
    private static final int BAD = EvenLines.BAD;
    private static final double NEAR = 1e-9;

    public static void main(String[] args) throws Exception {
        Words terms = new Words();
        terms.of("N - 1 (0 to 10; none at first), of each two a SIGN, 1 or -1.", LineTermsTest::eachTwoLinesHaveASign);
        terms.of("THE TABLE has 0 at i, i, the SIGN at i, j.", LineTermsTest::theTableHasTheSigns);
        terms.of("TURNING a LINE about: all its SIGNS change.", LineTermsTest::turningChangesAllSigns);
        terms.of("A TRIPLE i, j, k is ODD, if the product of its three SIGNS is -1.", LineTermsTest::triplesAreOddByTheirProduct);
        terms.of("TABLES are LIKE, if one comes of the other by TURNING LINES about and by numbering them anew.",
            LineTermsTest::likeTablesHaveOneName);
        terms.of("By an ANGLE a (3 to 9, odd; 3 at first) THE SHAPE has a at i, i, elsewhere THE TABLE's:",
            LineTermsTest::theShapeHasTheAngle);
        terms.of("LINES with 1 by a as cosine of each two's angle, up to signs, if it has no own number below 0;",
            LineTermsTest::linesThatLieHaveTheirCosines);
        terms.of("RANK is how many dimensions they take: the rank of THE SHAPE.", LineTermsTest::theRankIsTheShapes);
        terms.of("SUMS e 0 .. e N of a table: e k is the sum of all determinants of k of its LINES and the same columns (e 0 is 1).",
            LineTermsTest::sumsAreOfDeterminants);
        terms.of("(No own number is below 0, just if no sum is.)", LineTermsTest::noOwnNumberIsBelowZeroIfNoSumIs);
        terms.of("BOUNDS in d dimensions (1 to 20) by ANGLE a: d (d and 1) by 2 (always);", LineTermsTest::theBoundThatIsAlways);
        terms.of("and, where d is below a a: d (a a less 1) by (a a less d), rounded down;", LineTermsTest::theBoundByTheAngle);
        terms.of("THE BOUND is the lesser one.", LineTermsTest::noMoreLinesLieThanTheBound);
        terms.of("PUTTING one LINE to the others: a row of SIGNS for it, as bits (bit i: its SIGN with LINE i is -1), "
            + "that of LINE 0 being 1.", LineTermsTest::aLineIsPutByItsBits);
        terms.of("It GOES in d dimensions, if THE SHAPE with it has no own number below 0 and RANK at most d.",
            LineTermsTest::whatGoesLiesThere);
        terms.of("GROWING in d dimensions: the least bits that GO are put, again and again, to 10 LINES at most, as long as some GO.",
            LineTermsTest::growingPutsTheLeastAgainAndAgain);
        terms.of("THE NAME of THE TABLE (N to 7): of all numberings, and for each the TURNING about by which LINE 0 has all SIGNS 1, "
            + "the least number whose bits (the lowest first) tell, for j from 2 on and i from 1 to j - 1, "
            + "whether the SIGN of i, j is -1.", LineTermsTest::theNameIsTheLeastOfAllNumberings);
        terms.of("KINDS of N LINES (1 to 5): how many unlike ones there are.", LineTermsTest::kindsAreUnlike);
        terms.of("GROUP: how many numberings, with TURNING about, leave THE TABLE as it is (N to 7).",
            LineTermsTest::theGroupLeavesTheTable);
        terms.areAll("## Terms", "======== 4 SETS");
        Check.end();
    }

    private static String text(int[][] t) {
        return Arrays.deepToString(t);
    }

    /** The text is made only where it is printed, as there are some hundred thousand tables. */
    private static void due(int[][] t, String what, long got, long want) {
        if (got != want) Check.due(what + " of " + text(t), got, want);
    }

    private static void eachTwoLinesHaveASign() {
        Check.due("lines at first", new EvenLines().count(0), 0);
        for (int n : new int[] {-1, 11}) Check.due("lines(" + n + ")", new EvenLines().lines(n), BAD);
        for (int n = 0; n <= 10; n++) {
            EvenLines x = new EvenLines();
            Check.due("lines(" + n + ")", x.lines(n), 0);
            Check.due("line " + n + " of " + n, x.at(n, n), BAD);
            for (int j = 0; j < n; j++) {
                for (int i = 0; i < j; i++) {
                    Check.due("a sign of " + n + " lines", x.sign(i, j, -1), 1);
                    Check.due("it is -1", x.at(i, j), -1);
                    Check.due("one sign more is -1", x.count(2), j * (j - 1) / 2 + i + 1);
                    Check.due("a sign is not 0", x.sign(j, i, 0), BAD);
                }
            }
        }
    }

    private static void theTableHasTheSigns() {
        Signs.some(t -> {
            int[][] got = Signs.tableOf(Signs.object(t));
            if (!Arrays.deepEquals(got, t)) Check.fail("the table is " + text(got) + ", due is " + text(t));
        });
    }

    private static void turningChangesAllSigns() {
        Signs.some(t -> {
            for (int line = 0; line < t.length; line++) {
                EvenLines x = Signs.object(t);
                x.turn(line);
                int[][] due = Signs.turned(t, line);
                if (!Arrays.deepEquals(Signs.tableOf(x), due)) Check.fail("line " + line + " of " + text(t) + " is not turned about");
            }
        });
    }

    private static void triplesAreOddByTheirProduct() {
        Signs.some(t -> {
            int n = t.length;
            int odd = 0;
            int[][] together = new int[n][n];
            for (int i = 0; i < n; i++) {
                for (int j = 0; j < n; j++) {
                    for (int k = 0; k < n; k++) {
                        if (i != j && j != k && k != i && t[i][j] * t[j][k] * t[k][i] == -1) {
                            together[i][j]++;
                            if (i < j && j < k) odd++;
                        }
                    }
                }
            }
            EvenLines x = Signs.object(t);
            due(t, "odd", x.odd(), odd);
            TreeSet<Integer> numbers = new TreeSet<>();
            for (int i = 0; i < n; i++) {
                for (int j = 0; j < n; j++) {
                    if (i != j) {
                        due(t, "together", x.together(i, j), together[i][j]);
                        numbers.add(together[i][j]);
                    }
                }
            }
            due(t, "regular", x.regular(), numbers.size() < 2 ? 1 : 0);
            if (n > 0) x.turn(n - 1);
            due(t, "odd, one line turned,", x.odd(), odd);
        });
    }

    /** Which tables come of which: those that one turning or one change of two neighbours gives are of one kind. */
    private static Map<String, Integer> kindsOf(int n) {
        Map<String, Integer> kinds = new HashMap<>();
        int[] next = {0};
        Signs.eachOf(n, t -> {
            if (kinds.containsKey(text(t))) return;
            List<int[][]> found = new ArrayList<>();
            found.add(t);
            kinds.put(text(t), next[0]);
            for (int at = 0; at < found.size(); at++) {
                for (int[][] near : neighbours(found.get(at))) if (kinds.putIfAbsent(text(near), next[0]) == null) found.add(near);
            }
            next[0]++;
        });
        return kinds;
    }

    private static List<int[][]> neighbours(int[][] t) {
        List<int[][]> all = new ArrayList<>();
        for (int i = 0; i < t.length; i++) all.add(Signs.turned(t, i));
        for (int i = 1; i < t.length; i++) {
            int[] numbers = new int[t.length];
            for (int k = 0; k < t.length; k++) numbers[k] = k == i ? i - 1 : k == i - 1 ? i : k;
            all.add(Signs.numbered(t, numbers));
        }
        return all;
    }

    private static void likeTablesHaveOneName() {
        for (int n = 1; n <= 5; n++) {
            Map<String, Integer> kinds = kindsOf(n);
            Map<Integer, Integer> names = new HashMap<>();
            Signs.eachOf(n, t -> {
                int name = Signs.object(t).name();
                Integer before = names.putIfAbsent(kinds.get(text(t)), name);
                if (before != null) due(t, "name, as of like tables,", name, before);
            });
            Check.due("unlike tables of " + n + " lines have other names", new TreeSet<>(names.values()).size(), names.size());
        }
    }

    private static void theShapeHasTheAngle() {
        Check.due("the angle at first", new EvenLines().count(1), 3);
        for (int a = -1; a <= 12; a++) {
            boolean right = a == 3 || a == 5 || a == 7 || a == 9;
            Check.due("angle(" + a + ")", new EvenLines().angle(a), right ? 3 : BAD);
        }
        Signs.each(4, t -> {
            for (int a : Signs.ANGLES) {
                int all = (1 << t.length) - 1;
                long due = Signs.determinant(Signs.shape(t, a), all, all);
                due(t, "the shape's determinant", Signs.object(t, a).sums(1, t.length), due);
            }
        });
    }

    /**
     * Vectors with these products of each two, one row for each line, of as many numbers as it takes dimensions;
     * null, if there are none: the greatest square that is left is taken off, again and again.
     */
    private static double[][] vectors(int[][] shape) {
        int n = shape.length;
        double[][] left = new double[n][n];
        for (int i = 0; i < n; i++) for (int j = 0; j < n; j++) left[i][j] = shape[i][j];
        double[][] made = new double[n][0];
        for (int step = 0; step <= n; step++) {
            int p = 0;
            for (int i = 1; i < n; i++) if (left[i][i] > left[p][p]) p = i;
            if (n == 0 || left[p][p] < NEAR) break;
            double length = Math.sqrt(left[p][p]);
            for (int i = 0; i < n; i++) {
                made[i] = Arrays.copyOf(made[i], step + 1);
                made[i][step] = left[i][p] / length;
            }
            for (int i = 0; i < n; i++) for (int j = 0; j < n; j++) left[i][j] -= made[i][step] * made[j][step];
        }
        for (double[] row : left) for (double x : row) if (Math.abs(x) > NEAR) return null;
        return made;
    }

    private static void linesThatLieHaveTheirCosines() {
        Signs.eachToSix(LineTermsTest::liesWithItsCosines);
        Signs.some(LineTermsTest::liesWithItsCosines);
    }

    private static void liesWithItsCosines(int[][] t) {
        for (int a : Signs.ANGLES) {
            double[][] lines = vectors(Signs.shape(t, a));
            EvenLines x = Signs.object(t, a);
            due(t, "lies", x.lies(), lines == null ? 0 : 1);
            if (lines != null && t.length > 0) due(t, "rank", x.rank(), lines[0].length);
            for (int i = 0; lines != null && i < t.length; i++) {
                for (int j = 0; j < i; j++) {
                    double cosine = product(lines[i], lines[j]) / Math.sqrt(product(lines[i], lines[i]) * product(lines[j], lines[j]));
                    if (Math.abs(cosine * a - x.at(i, j)) > NEAR) Check.fail("the cosine of " + i + ", " + j + " by " + a + " of " + text(t));
                }
            }
        }
    }

    private static double product(double[] u, double[] v) {
        double sum = 0;
        for (int i = 0; i < u.length; i++) sum += u[i] * v[i];
        return sum;
    }

    private static void theRankIsTheShapes() {
        Signs.each(5, LineTermsTest::hasItsRank);
        Signs.some(LineTermsTest::hasItsRank);
        Check.due("the rank of no lines", new EvenLines().rank(), 0);
    }

    private static void hasItsRank(int[][] t) {
        for (int a : Signs.ANGLES) due(t, "rank", Signs.object(t, a).rank(), rank(Signs.shape(t, a)));
    }

    /** The rank modulo a prime that is above all determinants of ten such lines, and so the rank. */
    private static int rank(int[][] m) {
        BigInteger prime = BigInteger.valueOf(1000000000039L);
        int n = m.length;
        BigInteger[][] b = new BigInteger[n][n];
        for (int i = 0; i < n; i++) for (int j = 0; j < n; j++) b[i][j] = BigInteger.valueOf(m[i][j]).mod(prime);
        int rank = 0;
        for (int c = 0; c < n; c++) {
            int row = rank;
            while (row < n && b[row][c].signum() == 0) row++;
            if (row == n) continue;
            BigInteger[] first = b[row];
            b[row] = b[rank];
            b[rank] = first;
            for (int i = rank + 1; i < n; i++) {
                BigInteger times = b[i][c].multiply(first[c].modInverse(prime)).mod(prime);
                for (int j = c; j < n; j++) b[i][j] = b[i][j].subtract(times.multiply(first[j])).mod(prime);
            }
            rank++;
        }
        return rank;
    }

    private static void sumsAreOfDeterminants() {
        Signs.each(5, t -> {
            EvenLines x = Signs.object(t, 5);
            for (int k = 0; k <= t.length; k++) {
                due(t, "e k of the table", x.sums(0, k), sum(t, k));
                due(t, "e k of the shape", x.sums(1, k), sum(Signs.shape(t, 5), k));
            }
        });
    }

    private static long sum(int[][] m, int k) {
        long sum = 0;
        for (int set = 0; set < 1 << m.length; set++) if (Integer.bitCount(set) == k) sum += Signs.determinant(m, set, set);
        return sum;
    }

    /** Where all own numbers are whole, the least of them tells by itself which angles' lines lie. */
    private static void noOwnNumberIsBelowZeroIfNoSumIs() {
        int[] whole = {0};
        Signs.eachToSix(t -> {
            EvenLines x = Signs.object(t);
            int least = 0;
            int many = 0;
            for (int o = 6; o >= -6; o--) {
                int times = x.own(o);
                many += times;
                if (times > 0) least = o;
            }
            for (int a : Signs.ANGLES) {
                x.angle(a);
                boolean none = true;
                for (int k = 0; k <= t.length; k++) none &= x.sums(1, k) >= 0;
                due(t, "lies", x.lies(), none ? 1 : 0);
                if (many == t.length) due(t, "lies, by the own numbers,", x.lies(), a + least >= 0 ? 1 : 0);
            }
            if (many == t.length) whole[0]++;
        });
        if (whole[0] < 50) Check.fail("only " + whole[0] + " tables have whole own numbers alone");
    }

    private static void theBoundThatIsAlways() {
        EvenLines x = new EvenLines();
        int[] from9 = {45, 55, 66, 78, 91, 105, 120, 136, 153, 171, 190, 210};
        for (int d = 9; d <= 20; d++) Check.due("bound(" + d + ") by 3", x.bound(d), from9[d - 9]);
        Check.due("bound(8) by 3", x.bound(8), 36);
        Check.due("bound(0)", x.bound(0), BAD);
        Check.due("bound(21)", x.bound(21), BAD);
    }

    private static void theBoundByTheAngle() {
        int[][] due = {
            {1, 2, 4, 6, 10, 16, 28},
            {1, 2, 3, 4, 6, 7, 9, 11, 13, 16, 18, 22, 26, 30, 36, 42, 51, 61, 76, 96},
            {1, 2, 3, 4, 5, 6, 8, 9, 10, 12, 13, 15, 17, 19, 21, 23, 25, 27, 30, 33},
            {1, 2, 3, 4, 5, 6, 7, 8, 10, 11, 12, 13, 15, 16, 18, 19, 21, 22, 24, 26}};
        for (int k = 0; k < due.length; k++) {
            EvenLines x = new EvenLines();
            x.angle(Signs.ANGLES[k]);
            for (int d = 1; d <= due[k].length; d++) Check.due("bound(" + d + ") by " + Signs.ANGLES[k], x.bound(d), due[k][d - 1]);
        }
    }

    private static void noMoreLinesLieThanTheBound() {
        for (int a : Signs.ANGLES) {
            for (int d = 1; d <= 20; d++) {
                EvenLines x = new EvenLines();
                x.angle(a);
                x.lines(1);
                int grown = x.grow(d);
                if (grown > x.bound(d)) Check.fail(grown + " lines by " + a + " in " + d + " dimensions, of at most " + x.bound(d));
            }
        }
        Signs.eachToSix(t -> {
            for (int a : Signs.ANGLES) {
                EvenLines x = Signs.object(t, a);
                if (t.length > 0 && x.lies() == 1 && t.length > x.bound(x.rank())) Check.fail("above the bound by " + a + ": " + text(t));
            }
        });
        EvenLines lesser = new EvenLines();
        Check.due("bound(7): both are 28", lesser.bound(7), 28);
        Check.due("bound(8): 36, not 64", lesser.bound(8), 36);
        Check.due("bound(6): 16, not 21", lesser.bound(6), 16);
    }

    private static void aLineIsPutByItsBits() {
        for (int n = 0; n <= 9; n++) {
            for (int bits = 0; bits < 1 << Math.max(1, n); bits++) {
                EvenLines x = new EvenLines();
                x.lines(n);
                boolean right = (bits & 1) == 0;
                Check.due("put(" + bits + ") to " + n, x.put(bits), right ? n : BAD);
                if (right) {
                    for (int i = 0; i < n; i++) Check.due("sign " + i + ", " + n + " after put(" + bits + ")", x.at(i, n), (bits >> i & 1) == 0 ? 1 : -1);
                    Check.due("signs that are -1 after put(" + bits + ")", x.count(2), Integer.bitCount(bits));
                }
            }
        }
    }

    private static void whatGoesLiesThere() {
        Signs.each(4, t -> {
            for (int a : new int[] {3, 5}) {
                for (int bits = 0; t.length > 0 && bits < 1 << t.length; bits += 2) goesAsItLies(t, a, bits);
            }
        });
        // Five lines that do not lie, and six of which some rows go in their own dimensions.
        for (int bits = 0; bits < 32; bits += 2) goesAsItLies(Signs.table(5, -1), 3, bits);
        for (int bits = 0; bits < 64; bits += 2) goesAsItLies(Signs.table(6, 0), 3, bits);
    }

    private static void goesAsItLies(int[][] t, int a, int bits) {
        EvenLines with = Signs.object(t, a);
        with.put(bits);
        double[][] lines = vectors(Signs.shape(Signs.tableOf(with), a));
        EvenLines x = Signs.object(t, a);
        for (int d = 1; d <= 20; d++) {
            int due = lines != null && lines[0].length <= d ? 1 : 0;
            due(t, "goes", x.goes(bits, d), due);
        }
    }

    private static void growingPutsTheLeastAgainAndAgain() {
        Signs.each(4, t -> {
            for (int a : new int[] {3, 5}) {
                for (int d = 1; t.length > 0 && d <= 11; d++) {
                    EvenLines x = Signs.object(t, a);
                    if (x.lies() == 1 && x.rank() <= d) growsStepByStep(x, t, a, d);
                }
            }
        });
    }

    private static void growsStepByStep(EvenLines x, int[][] t, int a, int d) {
        int[][] due = t;
        int least = leastThatGoes(due, a, d);
        while (least >= 0) {
            EvenLines step = Signs.object(due, a);
            step.put(least);
            due = Signs.tableOf(step);
            least = leastThatGoes(due, a, d);
        }
        due(t, "grow", x.grow(d), due.length);
        if (!Arrays.deepEquals(Signs.tableOf(x), due)) Check.fail("grow(" + d + ") by " + a + " of " + text(t) + " put other lines");
    }

    private static int leastThatGoes(int[][] t, int a, int d) {
        for (int bits = 0; t.length < 10 && bits < 1 << t.length; bits += 2) {
            if (Signs.object(t, a).goes(bits, d) == 1) return bits;
        }
        return -1;
    }

    private static void theNameIsTheLeastOfAllNumberings() {
        Signs.each(5, LineTermsTest::hasItsName);
        for (int n = 6; n <= 7; n++) for (int k = 1; k <= 12; k++) hasItsName(Signs.table(n, k * 0x9E3779B9L));
        for (int n = 0; n <= 10; n++) {
            if (Signs.object(Signs.table(n, 0)).name() != (n <= 7 ? 0 : EvenLines.NOT)) Check.fail("the name of " + n + " lines");
        }
    }

    private static void hasItsName(int[][] t) {
        int least = Integer.MAX_VALUE;
        for (int[] numbers : Signs.numberings(t.length)) {
            int[][] m = Signs.numbered(t, numbers);
            for (int i = 1; i < m.length; i++) if (m[0][i] == -1) m = Signs.turned(m, i);
            int number = 0;
            int bit = 1;
            for (int j = 2; j < m.length; j++) {
                for (int i = 1; i <= j - 1; i++) {
                    if (m[i][j] == -1) number += bit;
                    bit *= 2;
                }
            }
            least = Math.min(least, number);
        }
        due(t, "name", Signs.object(t).name(), least);
    }

    private static void kindsAreUnlike() {
        int[] due = {BAD, 1, 1, 2, 3, 7, BAD};
        for (int n = 0; n <= 6; n++) {
            Check.due("kinds(" + n + ")", new EvenLines().kinds(n), due[n]);
            if (n >= 1 && n <= 5) Check.due("kinds of " + n + " that come of one another", new TreeSet<>(kindsOf(n).values()).size(), due[n]);
        }
    }

    private static void theGroupLeavesTheTable() {
        Signs.each(5, LineTermsTest::hasItsGroup);
        for (int k = 1; k <= 12; k++) hasItsGroup(Signs.table(6, k * 0x9E3779B9L));
        hasItsGroup(Signs.table(7, 0));
        hasItsGroup(Signs.table(7, 0x12345));
        for (int n = 8; n <= 10; n++) Check.due("the group of " + n + " lines", Signs.object(Signs.table(n, 0)).group(), EvenLines.NOT);
    }

    /** Of the turnings that could give the table back, the one is tried by which line 0 has its own signs again. */
    private static void hasItsGroup(int[][] t) {
        int leaving = 0;
        for (int[] numbers : Signs.numberings(t.length)) {
            int[][] m = Signs.numbered(t, numbers);
            for (int i = 1; i < m.length; i++) if (m[0][i] != t[0][i]) m = Signs.turned(m, i);
            if (Arrays.deepEquals(m, t)) leaving++;
        }
        due(t, "group", Signs.object(t).group(), leaving);
    }
}
