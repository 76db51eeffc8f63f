import java.math.BigInteger;
import java.util.ArrayList;
import java.util.List;

/**
 * The document once more, in the slowest and plainest way and by other means than the class: full tables,
 * determinants, all numberings, real rows of bytes, shorts and ints with the machine's own exceptions.
 */
final class Model {
    private static final int BAD = -2, NOT = -3, FULL = -4;

    int[][] t = new int[0][0];
    int a = 3;
    int finding = 0;
    Object[] sheets = new Object[4];

    // ---- tables

    private boolean line(int i) {
        return 0 <= i && i < t.length;
    }

    static int[][] ones(int n) {
        int[][] made = new int[n][n];
        for (int i = 0; i < n; i++) for (int j = 0; j < n; j++) made[i][j] = i == j ? 0 : 1;
        return made;
    }

    int lines(int n) {
        if (n < 0 || n > 10) return BAD;
        int before = t.length;
        t = ones(n);
        return before;
    }

    int sign(int i, int j, int v) {
        if (!line(i) || !line(j) || i == j || v * (long) v != 1) return BAD;
        int before = t[i][j];
        t[i][j] = v;
        t[j][i] = v;
        return before;
    }

    int at(int i, int j) {
        return line(i) && line(j) ? t[i][j] : BAD;
    }

    int turn(int i) {
        if (!line(i)) return BAD;
        int minus = 0;
        for (int j = 0; j < t.length; j++) {
            t[i][j] = -t[i][j];
            t[j][i] = t[i][j];
            if (t[i][j] < 0) minus++;
        }
        return minus;
    }

    int change(int i, int j) {
        if (!line(i) || !line(j)) return BAD;
        int[] p = new int[t.length];
        for (int k = 0; k < p.length; k++) p[k] = k == i ? j : k == j ? i : k;
        t = numbered(t, p);
        return 1;
    }

    static int[][] numbered(int[][] t, int[] p) {
        int[][] made = new int[t.length][t.length];
        for (int i = 0; i < t.length; i++) for (int j = 0; j < t.length; j++) made[i][j] = t[p[i]][p[j]];
        return made;
    }

    int odd() {
        int odd = 0;
        for (int i = 0; i < t.length; i++)
            for (int j = 0; j < i; j++)
                for (int k = 0; k < j; k++) if (t[i][j] * t[j][k] * t[i][k] == -1) odd++;
        return odd;
    }

    int together(int i, int j) {
        if (!line(i) || !line(j) || i == j) return BAD;
        int odd = 0;
        for (int k = 0; k < t.length; k++) if (t[i][j] * t[j][k] * t[i][k] == -1) odd++;
        return odd;
    }

    int regular() {
        List<Integer> seen = new ArrayList<>();
        for (int i = 0; i < t.length; i++)
            for (int j = 0; j < i; j++) if (!seen.contains(together(i, j))) seen.add(together(i, j));
        return seen.size() < 2 ? 1 : 0;
    }

    // ---- shapes

    int angle(int to) {
        if (to != 3 && to != 5 && to != 7 && to != 9) return BAD;
        int before = a;
        a = to;
        return before;
    }

    static int[][] shape(int[][] t, int a) {
        int[][] made = new int[t.length][t.length];
        for (int i = 0; i < t.length; i++) for (int j = 0; j < t.length; j++) made[i][j] = i == j ? a : t[i][j];
        return made;
    }

    /** The determinant of the lines in a set of bits, by elimination without fractions. */
    static BigInteger determinant(int[][] m, int set) {
        int n = Integer.bitCount(set);
        BigInteger[][] b = new BigInteger[n][n];
        for (int i = 0, r = 0; i < m.length; i++) {
            if ((set >> i & 1) == 0) continue;
            for (int j = 0, c = 0; j < m.length; j++) if ((set >> j & 1) != 0) b[r][c++] = BigInteger.valueOf(m[i][j]);
            r++;
        }
        BigInteger last = BigInteger.ONE;
        boolean swapped = false;
        for (int k = 0; k < n; k++) {
            int p = k;
            while (p < n && b[p][k].signum() == 0) p++;
            if (p == n) return BigInteger.ZERO;
            if (p != k) {
                BigInteger[] row = b[p];
                b[p] = b[k];
                b[k] = row;
                swapped = !swapped;
            }
            for (int i = k + 1; i < n; i++)
                for (int j = k + 1; j < n; j++)
                    b[i][j] = b[i][j].multiply(b[k][k]).subtract(b[i][k].multiply(b[k][j])).divide(last);
            last = b[k][k];
        }
        return swapped ? last.negate() : last;
    }

    long sums(int what, int k) {
        if (what < 0 || what > 1 || k < 0 || k > t.length) return Long.MIN_VALUE + 2;
        int[][] m = what == 0 ? t : shape(t, a);
        BigInteger sum = BigInteger.ZERO;
        for (int set = 0; set < 1 << t.length; set++)
            if (Integer.bitCount(set) == k) sum = sum.add(determinant(m, set));
        return sum.longValueExact();
    }

    int own(int x) {
        if (x < -20 || x > 20) return BAD;
        return t.length - rankOf(shape(t, -x));
    }

    /** The rank of any table, by elimination with whole numbers of any size. */
    static int rankOf(int[][] m) {
        int n = m.length;
        BigInteger[][] b = new BigInteger[n][n];
        for (int i = 0; i < n; i++) for (int j = 0; j < n; j++) b[i][j] = BigInteger.valueOf(m[i][j]);
        int rank = 0;
        BigInteger last = BigInteger.ONE;
        for (int c = 0; c < n; c++) {
            int p = rank;
            while (p < n && b[p][c].signum() == 0) p++;
            if (p == n) continue;
            BigInteger[] row = b[p];
            b[p] = b[rank];
            b[rank] = row;
            for (int i = rank + 1; i < n; i++) {
                BigInteger f = b[i][c];
                for (int j = c; j < n; j++)
                    b[i][j] = b[i][j].multiply(b[rank][c]).subtract(b[rank][j].multiply(f)).divide(last);
            }
            last = b[rank][c];
            rank++;
        }
        return rank;
    }

    /** Whether no own number is below 0: squares are taken off one after the other (Lagrange). */
    static boolean noneBelow(int[][] m) {
        int n = m.length;
        BigInteger[][] b = new BigInteger[n][n];
        for (int i = 0; i < n; i++) for (int j = 0; j < n; j++) b[i][j] = BigInteger.valueOf(m[i][j]);
        BigInteger last = BigInteger.ONE;
        for (int k = 0; k < n; k++) {
            if (b[k][k].signum() < 0) return false;
            if (b[k][k].signum() == 0) {
                for (int j = k + 1; j < n; j++) if (b[k][j].signum() != 0) return false;
                continue;
            }
            for (int i = k + 1; i < n; i++)
                for (int j = i; j < n; j++) {
                    b[i][j] = b[i][j].multiply(b[k][k]).subtract(b[k][i].multiply(b[k][j])).divide(last);
                    b[j][i] = b[i][j];
                }
            last = b[k][k];
        }
        return true;
    }

    int lies() {
        return noneBelow(shape(t, a)) ? 1 : 0;
    }

    int rank() {
        return rankOf(shape(t, a));
    }

    int bound(int d) {
        if (d < 1 || d > 20) return BAD;
        int most = 0;
        while (2 * (most + 1) <= d * (d + 1) && (d >= a * a || (most + 1) * (a * a - d) <= d * (a * a - 1))) most++;
        return most;
    }

    // ---- growing

    private boolean row(int bits) {
        if (bits < 0) return false;
        for (int i = 0; i < 31; i++) if ((bits >> i & 1) != 0 && (i == 0 || i >= t.length)) return false;
        return true;
    }

    private int[][] with(int bits) {
        int n = t.length;
        int[][] made = ones(n + 1);
        for (int i = 0; i < n; i++) {
            for (int j = 0; j < n; j++) made[i][j] = t[i][j];
            made[i][n] = (bits >> i & 1) == 0 ? 1 : -1;
            made[n][i] = made[i][n];
        }
        return made;
    }

    int goes(int bits, int d) {
        if (!row(bits) || d < 1 || d > 20) return BAD;
        if (t.length == 0) return NOT;
        if (t.length == 10) return FULL;
        int[][] m = shape(with(bits), a);
        return noneBelow(m) && rankOf(m) <= d ? 1 : 0;
    }

    int ways(int d) {
        if (goes(0, d) < 0) return goes(0, d);
        int ways = 0;
        for (int bits = 0; bits < 1 << t.length; bits++) if (goes(bits, d) == 1) ways++;
        return ways;
    }

    int put(int bits) {
        if (!row(bits)) return BAD;
        if (t.length == 10) return FULL;
        t = with(bits);
        return t.length - 1;
    }

    int grow(int d) {
        if (d < 1 || d > 20) return BAD;
        if (t.length == 0 || lies() == 0 || rank() > d) return NOT;
        boolean more = true;
        while (more && t.length < 10) {
            more = false;
            for (int bits = 0; bits < 1 << t.length && !more; bits++) {
                if (goes(bits, d) == 1) {
                    put(bits);
                    more = true;
                }
            }
        }
        return t.length;
    }

    // ---- names

    static List<int[]> numberings(int n) {
        List<int[]> all = new ArrayList<>();
        extend(all, new int[n], 0);
        return all;
    }

    private static void extend(List<int[]> all, int[] p, int k) {
        if (k == p.length) {
            all.add(p.clone());
            return;
        }
        next:
        for (int x = 0; x < p.length; x++) {
            for (int i = 0; i < k; i++) if (p[i] == x) continue next;
            p[k] = x;
            extend(all, p, k + 1);
        }
    }

    /** The number of a table with line 0's signs all made 1. */
    static int number(int[][] table) {
        int[][] m = turnedToFirst(table);
        int number = 0;
        int bit = 0;
        for (int j = 2; j < m.length; j++) for (int i = 1; i < j; i++, bit++) if (m[i][j] == -1) number += 1 << bit;
        return number;
    }

    static int[][] turnedToFirst(int[][] table) {
        Model m = new Model();
        m.t = numbered(table, firstNumbers(table.length));
        for (int i = 1; i < table.length; i++) if (m.t[0][i] == -1) m.turn(i);
        return m.t;
    }

    private static int[] firstNumbers(int n) {
        int[] p = new int[n];
        for (int i = 0; i < n; i++) p[i] = i;
        return p;
    }

    int name() {
        if (t.length > 7) return NOT;
        int least = Integer.MAX_VALUE;
        for (int[] p : numberings(t.length)) least = Math.min(least, number(numbered(t, p)));
        return least;
    }

    int plain() {
        if (t.length > 7) return NOT;
        int name = name();
        int[][] to = t;
        for (int[] p : numberings(t.length)) if (number(numbered(t, p)) == name) to = turnedToFirst(numbered(t, p));
        int changed = 0;
        for (int i = 0; i < t.length; i++) if (!java.util.Arrays.equals(t[i], to[i])) changed++;
        t = to;
        return changed;
    }

    int group() {
        if (t.length > 7) return NOT;
        int keeping = 0;
        for (int[] p : numberings(t.length)) if (sameTriples(t, numbered(t, p))) keeping++;
        return keeping;
    }

    /** One table comes of the other by turning lines about, just if the same triples are odd. */
    private static boolean sameTriples(int[][] s, int[][] t) {
        for (int i = 0; i < s.length; i++)
            for (int j = 0; j < i; j++)
                for (int k = 0; k < j; k++)
                    if (s[i][j] * s[j][k] * s[i][k] != t[i][j] * t[j][k] * t[i][k]) return false;
        return true;
    }

    /** All tables are gone through, and those like one that is already there are left out. */
    int kinds(int n) {
        if (n < 1 || n > 5) return BAD;
        List<int[][]> kinds = new ArrayList<>();
        List<int[]> numberings = numberings(n);
        next:
        for (int code = 0; code < 1 << n * (n - 1) / 2; code++) {
            int[][] m = ones(n);
            int bit = 0;
            for (int i = 0; i < n; i++)
                for (int j = 0; j < i; j++, bit++)
                    if ((code >> bit & 1) != 0) {
                        m[i][j] = -1;
                        m[j][i] = -1;
                    }
            for (int[][] k : kinds) for (int[] p : numberings) if (sameTriples(k, numbered(m, p))) continue next;
            kinds.add(m);
        }
        return kinds.size();
    }

    // ---- sets

    private static List<Integer> set(int v, int bits) {
        List<Integer> set = new ArrayList<>();
        for (int x = 0; x < v; x++) if ((bits >> x & 1) != 0) set.add(x);
        return set;
    }

    private static boolean noSet(int v, int bits) {
        return v < 2 || v > 31 || bits < 0 || (long) bits >= 1L << v;
    }

    int hits(int v, int bits, int step) {
        if (noSet(v, bits) || step < 1 || step > v - 1) return BAD;
        List<Integer> set = set(v, bits);
        int hits = 0;
        for (int x : set) if (set.contains((x + step) % v)) hits++;
        return hits;
    }

    int even(int v, int bits) {
        if (noSet(v, bits)) return BAD;
        for (int step = 2; step < v; step++) if (hits(v, bits, step) != hits(v, bits, 1)) return -1;
        return hits(v, bits, 1);
    }

    int welch(int v, int k) {
        if (v < 2 || v > 31 || k < 1 || k > v) return BAD;
        return BigInteger.valueOf(v - k).multiply(BigInteger.valueOf(1000000))
            .divide(BigInteger.valueOf(k).multiply(BigInteger.valueOf(v - 1))).intValueExact();
    }

    int multipliers(int v, int bits) {
        if (noSet(v, bits)) return BAD;
        List<Integer> set = set(v, bits);
        int multipliers = 0;
        for (int t = 1; t < v; t++) {
            if (BigInteger.valueOf(t).gcd(BigInteger.valueOf(v)).intValue() != 1) continue;
            boolean some = false;
            for (int step = 0; step < v; step++) {
                boolean all = true;
                for (int x : set) all &= set.contains((t * x + step) % v);
                some |= all;
            }
            if (some) multipliers++;
        }
        return multipliers;
    }

    int find(int v, int k) {
        if (v < 2 || v > 15 || k < 1 || k > v) return BAD;
        for (int bits = 0; bits < 1 << v; bits++)
            if ((bits & 1) == 1 && set(v, bits).size() == k && even(v, bits) != -1) return bits;
        return -1;
    }

    // ---- sheets

    private int finding(RuntimeException e) {
        finding = e instanceof NullPointerException ? 1
            : e instanceof ArrayStoreException ? 4
            : e instanceof IndexOutOfBoundsException ? 2
            : e instanceof ClassCastException ? 3
            : 5;
        return -10 - finding;
    }

    private static int size(Object row) {
        return java.lang.reflect.Array.getLength(row);
    }

    int sheet(int s, int form, int n) {
        if (s < 0 || s > 3 || form < 0 || form > 2 || n > 100) return BAD;
        try {
            sheets[s] = form == 0 ? new byte[n] : form == 1 ? new short[n] : new int[n];
        } catch (NegativeArraySizeException e) {
            return finding(e);
        }
        return n;
    }

    int lose(int s) {
        if (s < 0 || s > 3) return BAD;
        if (sheets[s] == null) return finding(new NullPointerException());
        int had = size(sheets[s]);
        sheets[s] = null;
        return had;
    }

    int lay(int s, int form, int i, int v) {
        if (s < 0 || s > 3 || form < 0 || form > 2) return BAD;
        if (sheets[s] == null) return finding(new NullPointerException());
        try {
            if (form == 0) ((byte[]) sheets[s])[i] = (byte) v;
            if (form == 1) ((short[]) sheets[s])[i] = (short) v;
            if (form == 2) ((int[]) sheets[s])[i] = v;
        } catch (ClassCastException | IndexOutOfBoundsException e) {
            return finding(e);
        }
        return 1;
    }

    int get(int s, int form, int i) {
        if (s < 0 || s > 3 || form < 0 || form > 2) return Integer.MIN_VALUE;
        try {
            if (sheets[s] == null) throw new NullPointerException();
            if (form == 0) return ((byte[]) sheets[s])[i];
            if (form == 1) return ((short[]) sheets[s])[i];
            return ((int[]) sheets[s])[i];
        } catch (NullPointerException | ClassCastException | IndexOutOfBoundsException e) {
            finding(e);
            return Integer.MIN_VALUE;
        }
    }

    int copy(int s, int i, int u, int j, int n) {
        if (s < 0 || s > 3 || u < 0 || u > 3) return BAD;
        try {
            System.arraycopy(sheets[s], i, sheets[u], j, n);
        } catch (NullPointerException | ArrayStoreException | IndexOutOfBoundsException e) {
            return finding(e);
        }
        return 1;
    }

    int load(int s, int n) {
        if (s < 0 || s > 3 || n < 0 || n > 10) return BAD;
        if (sheets[s] == null) return finding(new NullPointerException());
        int[][] made = ones(n);
        try {
            for (int i = 0; i < n; i++)
                for (int j = i + 1; j < n; j++) {
                    made[i][j] = java.lang.reflect.Array.getInt(sheets[s], n * i + j) < 0 ? -1 : 1;
                    made[j][i] = made[i][j];
                }
        } catch (IndexOutOfBoundsException e) {
            return finding(e);
        }
        t = made;
        return n;
    }

    int write(int s) {
        if (s < 0 || s > 3) return BAD;
        if (sheets[s] == null) return finding(new NullPointerException());
        int n = t.length;
        if (size(sheets[s]) < n * n) return finding(new IndexOutOfBoundsException());
        int form = sheets[s] instanceof byte[] ? 0 : sheets[s] instanceof short[] ? 1 : 2;
        for (int i = 0; i < n; i++) for (int j = 0; j < n; j++) lay(s, form, n * i + j, t[i][j]);
        return n * n;
    }

    int count(int what) {
        if (what == 0) return t.length;
        if (what == 1) return a;
        if (what == 3) return finding;
        if (what != 2) return BAD;
        int minus = 0;
        for (int i = 0; i < t.length; i++) for (int j = 0; j < i; j++) if (t[i][j] == -1) minus++;
        return minus;
    }

    long digest() {
        BigInteger h = BigInteger.valueOf(17);
        List<Integer> each = new ArrayList<>();
        for (int what = 0; what < 3; what++) each.add(count(what));
        for (int[] row : t) for (int x : row) each.add(x);
        each.add(odd());
        for (int x : each) h = h.multiply(BigInteger.valueOf(31)).add(BigInteger.valueOf(x));
        return h.longValue();
    }
}
