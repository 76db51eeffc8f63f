/** Lines any two of which meet at one angle, held as a table of signs; sets whose differences are even; sheets. */
public final class EvenLines {
    public static final int NONE = -1, BAD = -2, NOT = -3, FULL = -4;

    private static final int MOST_LINES = 10;
    private static final int MOST_NAMED_LINES = 7;
    private static final int MOST_KIND_LINES = 5;
    private static final int MOST_DIMENSIONS = 20;
    private static final int MOST_OWN = 20;
    private static final int FIRST_ANGLE = 3;
    private static final int LAST_ANGLE = 9;

    private static final int LAST_ROUND = 31;
    private static final int LAST_FOUND_ROUND = 15;
    private static final int MILLION = 1000000;

    private static final int SHEETS = 4;
    private static final int MOST_ITEMS = 100;
    private static final int BYTES = 0, SHORTS = 1, INTS = 2;
    private static final int NULL = 1, INDEX = 2, CAST = 3, STORE = 4, SIZE = 5;

    private static final int LEAST_INT = -2147483648;
    private static final long LEAST_LONG = -9223372036854775808L;

    private final Table table = new Table();
    private final Table other = new Table();
    private final Sums reckoned = new Sums();
    private final Numberings numberings = new Numberings();
    private final Sheet[] sheets = new Sheet[SHEETS];
    private int angle = FIRST_ANGLE;
    private int finding = 0;

    public EvenLines() {
        for (int s = 0; s < SHEETS; s++) {
            sheets[s] = new Sheet();
        }
    }

    // ---- tables

    public int lines(int n) {
        if (!isLineCount(n)) {
            return BAD;
        }
        int before = table.size;
        table.start(n);
        return before;
    }

    public int sign(int i, int j, int v) {
        if (!areTwoLines(i, j) || (v != 1 && v != -1)) {
            return BAD;
        }
        int before = table.entry(i, j);
        table.setMinus(i, j, v == -1);
        return before;
    }

    public int at(int i, int j) {
        if (!table.hasLine(i) || !table.hasLine(j)) {
            return BAD;
        }
        return table.entry(i, j);
    }

    public int turn(int i) {
        if (!table.hasLine(i)) {
            return BAD;
        }
        table.turnLine(i);
        return Integer.bitCount(table.minus[i]);
    }

    public int change(int i, int j) {
        if (!table.hasLine(i) || !table.hasLine(j)) {
            return BAD;
        }
        table.swapLines(i, j);
        return 1;
    }

    public int odd() {
        return table.oddTriples();
    }

    public int together(int i, int j) {
        if (!areTwoLines(i, j)) {
            return BAD;
        }
        return table.oddTriplesWith(i, j);
    }

    public int regular() {
        if (table.size < 2) {
            return 1;
        }
        int wanted = table.oddTriplesWith(0, 1);
        for (int j = 1; j < table.size; j++) {
            for (int i = 0; i < j; i++) {
                if (table.oddTriplesWith(i, j) != wanted) {
                    return 0;
                }
            }
        }
        return 1;
    }

    private boolean areTwoLines(int i, int j) {
        return table.hasLine(i) && table.hasLine(j) && i != j;
    }

    private static boolean isLineCount(int n) {
        return n >= 0 && n <= MOST_LINES;
    }

    // ---- shapes

    public int angle(int a) {
        if (a < FIRST_ANGLE || a > LAST_ANGLE || a % 2 == 0) {
            return BAD;
        }
        int before = angle;
        angle = a;
        return before;
    }

    public long sums(int what, int k) {
        if (what < 0 || what > 1 || k < 0 || k > table.size) {
            return LEAST_LONG - BAD;
        }
        reckoned.take(table, what == 0 ? 0 : angle);
        return reckoned.sum[k];
    }

    public int own(int x) {
        if (x < -MOST_OWN || x > MOST_OWN) {
            return BAD;
        }
        reckoned.take(table, 0);
        return reckoned.timesOwn(x);
    }

    public int lies() {
        reckoned.take(table, angle);
        return reckoned.noneBelowZero() ? 1 : 0;
    }

    public int rank() {
        reckoned.take(table, angle);
        return reckoned.dimensions();
    }

    public int bound(int d) {
        if (!isDimension(d)) {
            return BAD;
        }
        int always = d * (d + 1) / 2;
        int square = angle * angle;
        if (d >= square) {
            return always;
        }
        return Math.min(always, d * (square - 1) / (square - d));
    }

    private static boolean isDimension(int d) {
        return d >= 1 && d <= MOST_DIMENSIONS;
    }

    // ---- growing

    public int goes(int bits, int d) {
        if (!table.isRow(bits) || !isDimension(d)) {
            return BAD;
        }
        int refusal = refusalOfOneMore();
        if (refusal != 0) {
            return refusal;
        }
        reckoned.take(table, angle);
        return reckoned.letsIn(bits, d) ? 1 : 0;
    }

    public int ways(int d) {
        if (!isDimension(d)) {
            return BAD;
        }
        int refusal = refusalOfOneMore();
        if (refusal != 0) {
            return refusal;
        }
        reckoned.take(table, angle);
        int going = 0;
        for (int bits = 0; bits < 1 << table.size; bits += 2) {
            if (reckoned.letsIn(bits, d)) {
                going++;
            }
        }
        return going;
    }

    public int put(int bits) {
        if (!table.isRow(bits)) {
            return BAD;
        }
        if (table.size >= MOST_LINES) {
            return FULL;
        }
        table.addLine(bits);
        return table.size - 1;
    }

    public int grow(int d) {
        if (!isDimension(d)) {
            return BAD;
        }
        reckoned.take(table, angle);
        if (table.size == 0 || !reckoned.noneBelowZero() || reckoned.dimensions() > d) {
            return NOT;
        }
        for (int size = table.size; size < MOST_LINES; size++) {
            int bits = leastGoing(d);
            if (bits == NONE) {
                return size;
            }
            table.addLine(bits);
        }
        return table.size;
    }

    private int refusalOfOneMore() {
        if (table.size == 0) {
            return NOT;
        }
        return table.size >= MOST_LINES ? FULL : 0;
    }

    private int leastGoing(int d) {
        reckoned.take(table, angle);
        for (int bits = 0; bits < 1 << table.size; bits += 2) {
            if (reckoned.letsIn(bits, d)) {
                return bits;
            }
        }
        return NONE;
    }

    // ---- names

    public int name() {
        if (table.size > MOST_NAMED_LINES) {
            return NOT;
        }
        return numberings.least(table);
    }

    public int plain() {
        if (table.size > MOST_NAMED_LINES) {
            return NOT;
        }
        other.startNamed(table.size, numberings.least(table));
        int changed = 0;
        for (int i = 0; i < table.size; i++) {
            if (table.minus[i] != other.minus[i]) {
                changed++;
            }
            table.minus[i] = other.minus[i];
        }
        return changed;
    }

    public int group() {
        if (table.size > MOST_NAMED_LINES) {
            return NOT;
        }
        return numberings.keeping(table);
    }

    public int kinds(int n) {
        if (n < 1 || n > MOST_KIND_LINES) {
            return BAD;
        }
        // Like tables have one name, and just one number of a kind is its name: those are counted.
        int numbers = 1 << (n - 1) * (n - 2) / 2;
        int names = 0;
        for (int number = 0; number < numbers; number++) {
            other.startNamed(n, number);
            if (numberings.least(other) == number) {
                names++;
            }
        }
        return names;
    }

    // ---- sets

    public int hits(int v, int bits, int step) {
        if (!isSet(v, bits) || step < 1 || step >= v) {
            return BAD;
        }
        return hitsOfStep(v, bits, step);
    }

    public int even(int v, int bits) {
        if (!isSet(v, bits)) {
            return BAD;
        }
        return evenHits(v, bits);
    }

    public int welch(int v, int k) {
        if (!isRound(v) || k < 1 || k > v) {
            return BAD;
        }
        return (v - k) * MILLION / (k * (v - 1));
    }

    public int multipliers(int v, int bits) {
        if (!isSet(v, bits)) {
            return BAD;
        }
        int all = allOfRound(v);
        int multipliers = 0;
        for (int t = 1; t < v; t++) {
            // Without a common divisor with v, just if t leaves no number of the round out.
            boolean free = multiplied(v, all, t) == all;
            if (free && isMovedRound(v, bits, multiplied(v, bits, t))) {
                multipliers++;
            }
        }
        return multipliers;
    }

    public int find(int v, int k) {
        if (!isRound(v) || v > LAST_FOUND_ROUND || k < 1 || k > v) {
            return BAD;
        }
        // All steps' hits together are the k (k - 1) ordered pairs of the set.
        if (k * (k - 1) % (v - 1) != 0) {
            return NONE;
        }
        for (int bits = 1; bits < 1 << v; bits += 2) {
            if (Integer.bitCount(bits) == k && evenHits(v, bits) != NONE) {
                return bits;
            }
        }
        return NONE;
    }

    private static boolean isRound(int v) {
        return v >= 2 && v <= LAST_ROUND;
    }

    private static boolean isSet(int v, int bits) {
        return isRound(v) && bits >>> v == 0;
    }

    private static int allOfRound(int v) {
        return -1 >>> (32 - v);
    }

    private static int movedRound(int v, int bits, int step) {
        return (bits << step | bits >>> (v - step)) & allOfRound(v);
    }

    private static int hitsOfStep(int v, int bits, int step) {
        return Integer.bitCount(bits & movedRound(v, bits, step));
    }

    private static int evenHits(int v, int bits) {
        int wanted = hitsOfStep(v, bits, 1);
        for (int step = 2; step < v; step++) {
            if (hitsOfStep(v, bits, step) != wanted) {
                return NONE;
            }
        }
        return wanted;
    }

    private static int multiplied(int v, int bits, int t) {
        int products = 0;
        for (int x = 0; x < v; x++) {
            if ((bits >>> x & 1) != 0) {
                products |= 1 << t * x % v;
            }
        }
        return products;
    }

    private static boolean isMovedRound(int v, int bits, int moved) {
        for (int step = 0; step < v; step++) {
            if (movedRound(v, bits, step) == moved) {
                return true;
            }
        }
        return false;
    }

    // ---- sheets

    public int sheet(int s, int form, int n) {
        if (!isSheet(s) || !isForm(form) || n > MOST_ITEMS) {
            return BAD;
        }
        if (n < 0) {
            return findingOf(SIZE);
        }
        sheets[s].start(form, n);
        return n;
    }

    public int lose(int s) {
        if (!isSheet(s)) {
            return BAD;
        }
        Sheet sheet = sheets[s];
        if (sheet.lost) {
            return findingOf(NULL);
        }
        sheet.lost = true;
        return sheet.size;
    }

    public int lay(int s, int form, int i, int v) {
        if (!isSheet(s) || !isForm(form)) {
            return BAD;
        }
        int wrong = sheets[s].wrongWithItem(form, i);
        if (wrong != 0) {
            return findingOf(wrong);
        }
        sheets[s].setItem(i, v);
        return 1;
    }

    public int get(int s, int form, int i) {
        if (!isSheet(s) || !isForm(form)) {
            return LEAST_INT;
        }
        int wrong = sheets[s].wrongWithItem(form, i);
        if (wrong != 0) {
            finding = wrong;
            return LEAST_INT;
        }
        return sheets[s].items[i];
    }

    public int copy(int s, int i, int t, int j, int n) {
        if (!isSheet(s) || !isSheet(t)) {
            return BAD;
        }
        Sheet from = sheets[s];
        Sheet to = sheets[t];
        if (from.lost || to.lost) {
            return findingOf(NULL);
        }
        if (from.form != to.form) {
            return findingOf(STORE);
        }
        if (!from.hasItems(i, n) || !to.hasItems(j, n)) {
            return findingOf(INDEX);
        }
        System.arraycopy(from.items, i, to.items, j, n);
        return 1;
    }

    public int load(int s, int n) {
        if (!isSheet(s) || !isLineCount(n)) {
            return BAD;
        }
        Sheet sheet = sheets[s];
        if (sheet.lost) {
            return findingOf(NULL);
        }
        // The last item wanted is that of i = n - 2, j = n - 1; of fewer than two lines none is.
        if (sheet.size < n * (n - 1)) {
            return findingOf(INDEX);
        }
        table.start(n);
        for (int j = 1; j < n; j++) {
            for (int i = 0; i < j; i++) {
                table.setMinus(i, j, sheet.items[n * i + j] < 0);
            }
        }
        return n;
    }

    public int write(int s) {
        if (!isSheet(s)) {
            return BAD;
        }
        Sheet sheet = sheets[s];
        int n = table.size;
        if (sheet.lost) {
            return findingOf(NULL);
        }
        if (sheet.size < n * n) {
            return findingOf(INDEX);
        }
        for (int i = 0; i < n; i++) {
            for (int j = 0; j < n; j++) {
                sheet.setItem(n * i + j, table.entry(i, j));
            }
        }
        return n * n;
    }

    public int count(int what) {
        switch (what) {
            case 0:
                return table.size;
            case 1:
                return angle;
            case 2:
                return table.minusSigns();
            case 3:
                return finding;
            default:
                return BAD;
        }
    }

    public long digest() {
        long h = 17;
        for (int what = 0; what <= 2; what++) {
            h = 31 * h + count(what);
        }
        for (int i = 0; i < table.size; i++) {
            for (int j = 0; j < table.size; j++) {
                h = 31 * h + table.entry(i, j);
            }
        }
        return 31 * h + odd();
    }

    private static boolean isSheet(int s) {
        return s >= 0 && s < SHEETS;
    }

    private static boolean isForm(int form) {
        return form >= BYTES && form <= INTS;
    }

    private int findingOf(int number) {
        finding = number;
        return -10 - number;
    }

    /** Lines and their signs: bit j of minus[i] tells that the sign of i, j is -1; bits of no sign are 0. */
    private static final class Table {
        final int[] minus = new int[MOST_LINES];
        int size = 0;

        void start(int n) {
            size = n;
            for (int i = 0; i < MOST_LINES; i++) {
                minus[i] = 0;
            }
        }

        void startNamed(int n, int number) {
            start(n);
            for (int j = 2; j < n; j++) {
                for (int i = 1; i < j; i++) {
                    setMinus(i, j, (number >>> bitOfPair(i, j) & 1) != 0);
                }
            }
        }

        /** The place that lines i below j, neither of them line 0, have in a name. */
        static int bitOfPair(int i, int j) {
            return (j - 1) * (j - 2) / 2 + i - 1;
        }

        boolean hasLine(int i) {
            return i >= 0 && i < size;
        }

        boolean isRow(int bits) {
            return (bits & 1) == 0 && bits >>> size == 0;
        }

        boolean isMinus(int i, int j) {
            return (minus[i] >>> j & 1) != 0;
        }

        int entry(int i, int j) {
            if (i == j) {
                return 0;
            }
            return isMinus(i, j) ? -1 : 1;
        }

        void setMinus(int i, int j, boolean wanted) {
            if (isMinus(i, j) != wanted) {
                minus[i] ^= 1 << j;
                minus[j] ^= 1 << i;
            }
        }

        void turnLine(int i) {
            for (int j = 0; j < size; j++) {
                if (j != i) {
                    setMinus(i, j, !isMinus(i, j));
                }
            }
        }

        void swapLines(int i, int j) {
            int row = minus[i];
            minus[i] = minus[j];
            minus[j] = row;
            for (int k = 0; k < size; k++) {
                if (isMinus(k, i) != isMinus(k, j)) {
                    minus[k] ^= 1 << i | 1 << j;
                }
            }
        }

        void addLine(int bits) {
            int added = size;
            size++;
            for (int i = 0; i < added; i++) {
                setMinus(i, added, (bits >>> i & 1) != 0);
            }
        }

        int minusSigns() {
            int twice = 0;
            for (int i = 0; i < size; i++) {
                twice += Integer.bitCount(minus[i]);
            }
            return twice / 2;
        }

        int oddTriplesWith(int i, int j) {
            int unlike = minus[i] ^ minus[j];
            int odd = isMinus(i, j) ? ~unlike : unlike;
            int others = (1 << size) - 1 & ~(1 << i) & ~(1 << j);
            return Integer.bitCount(odd & others);
        }

        int oddTriples() {
            int thrice = 0;
            for (int j = 1; j < size; j++) {
                for (int i = 0; i < j; i++) {
                    thrice += oddTriplesWith(i, j);
                }
            }
            return thrice / 3;
        }
    }

    /**
     * The sums of a table with one number all down its diagonal, by Faddeev and LeVerrier: rest 0 is the unit
     * table, sum k is the trace of (table times rest k - 1) by k, and rest k is sum k times the unit table less
     * that product. The rests are kept, since the sums with one line more come of them without a table of that size.
     */
    private static final class Sums {
        final long[] sum = new long[MOST_LINES + 2];
        private final long[][] rest = new long[MOST_LINES + 1][MOST_LINES * MOST_LINES];
        private final long[] quotient = new long[MOST_LINES + 1];
        private int size = 0;
        private int diagonal = 0;

        void take(Table table, int number) {
            size = table.size;
            diagonal = number;
            sum[0] = 1;
            setUnit(rest[0]);
            for (int k = 1; k <= size; k++) {
                multiply(table, rest[k - 1], rest[k]);
                sum[k] = trace(rest[k]) / k;
                takeFromUnits(sum[k], rest[k]);
            }
            sum[size + 1] = 0;
        }

        private void setUnit(long[] to) {
            for (int i = 0; i < size; i++) {
                for (int j = 0; j < size; j++) {
                    to[size * i + j] = i == j ? 1 : 0;
                }
            }
        }

        private void multiply(Table table, long[] from, long[] to) {
            for (int i = 0; i < size; i++) {
                for (int j = 0; j < size; j++) {
                    to[size * i + j] = rowTimesColumn(table, from, i, j);
                }
            }
        }

        private long rowTimesColumn(Table table, long[] from, int i, int j) {
            long total = diagonal * from[size * i + j];
            int minus = table.minus[i];
            for (int k = 0; k < size; k++) {
                if (k != i) {
                    long term = from[size * k + j];
                    total += (minus >>> k & 1) != 0 ? -term : term;
                }
            }
            return total;
        }

        private long trace(long[] of) {
            long total = 0;
            for (int i = 0; i < size; i++) {
                total += of[size * i + i];
            }
            return total;
        }

        private void takeFromUnits(long times, long[] product) {
            for (int i = 0; i < size; i++) {
                for (int j = 0; j < size; j++) {
                    int cell = size * i + j;
                    product[cell] = i == j ? times - product[cell] : -product[cell];
                }
            }
        }

        boolean noneBelowZero() {
            for (int k = 1; k <= size; k++) {
                if (sum[k] < 0) {
                    return false;
                }
            }
            return true;
        }

        /** The rank: a table that is its own mirror lacks as many dimensions as 0 is its own number. */
        int dimensions() {
            for (int k = size; k > 0; k--) {
                if (sum[k] != 0) {
                    return k;
                }
            }
            return 0;
        }

        /** How often x is a root: the sums with signs by turns are divided by (own number less x) while it goes. */
        int timesOwn(int x) {
            for (int k = 0; k <= size; k++) {
                quotient[k] = k % 2 == 0 ? sum[k] : -sum[k];
            }
            for (int times = 0; times < size; times++) {
                int last = size - times;
                for (int k = 1; k <= last; k++) {
                    quotient[k] += x * quotient[k - 1];
                }
                if (quotient[last] != 0) {
                    return times;
                }
            }
            return size;
        }

        /** Whether a line with these bits goes: no sum with it is below 0, and none above d is another than 0. */
        boolean letsIn(int bits, int d) {
            // From the top, as it is there that a line which does not go mostly shows.
            for (int k = size + 1; k >= 2; k--) {
                long with = sumWith(bits, k);
                if (with < 0 || (k > d && with != 0)) {
                    return false;
                }
            }
            return true;
        }

        /** Sum k (2 to size + 1) of the table with one line more. */
        private long sumWith(int bits, int k) {
            return sum[k] + diagonal * sum[k - 1] - bothSides(rest[k - 2], bits);
        }

        /** The row of signs times a rest times that row; a rest is its own mirror, so one half is enough. */
        private long bothSides(long[] of, int bits) {
            long half = 0;
            for (int i = 1; i < size; i++) {
                // The bits that differ from bit i.
                int unlike = (bits >>> i & 1) != 0 ? ~bits : bits;
                for (int j = 0; j < i; j++) {
                    long term = of[size * i + j];
                    half += (unlike >>> j & 1) != 0 ? -term : term;
                }
            }
            return trace(of) + 2 * half;
        }
    }

    /** Numberings of up to seven lines anew, and the number that each of them gives the table. */
    private static final class Numberings {
        /** The line that bears each number anew. */
        private final int[] line = new int[MOST_NAMED_LINES];
        /** For each place the bits that it has, with the places above it, in the table as it is. */
        private final int[] wanted = new int[MOST_NAMED_LINES];
        private int least = 0;
        private int keeping = 0;

        int least(Table table) {
            least = numberAsItIs(table);
            for (int first = 0; first < table.size; first++) {
                line[0] = first;
                lower(table, table.size - 1, 1 << first, 0);
            }
            return least;
        }

        int keeping(Table table) {
            numberAsItIs(table);
            keeping = 0;
            for (int first = 0; first < table.size; first++) {
                line[0] = first;
                keep(table, table.size - 1, 1 << first);
            }
            // No lines have one numbering, which has no first line to begin with.
            return table.size == 0 ? 1 : keeping;
        }

        private int numberAsItIs(Table table) {
            int number = 0;
            for (int i = 0; i < table.size; i++) {
                line[i] = i;
            }
            for (int place = 1; place < table.size; place++) {
                wanted[place] = bitsOf(table, place);
                number |= wanted[place];
            }
            return number;
        }

        /** Fills the places from the last to the first, as the last ones have the highest bits: what can't become less is left. */
        private void lower(Table table, int place, int used, int number) {
            if (place < 1) {
                least = Math.min(least, number);
                return;
            }
            for (int next = 0; next < table.size; next++) {
                if ((used >>> next & 1) == 0) {
                    line[place] = next;
                    int longer = number | bitsOf(table, place);
                    if (longer < least) {
                        lower(table, place - 1, used | 1 << next, longer);
                    }
                }
            }
        }

        private void keep(Table table, int place, int used) {
            if (place < 1) {
                keeping++;
                return;
            }
            for (int next = 0; next < table.size; next++) {
                if ((used >>> next & 1) == 0) {
                    line[place] = next;
                    if (bitsOf(table, place) == wanted[place]) {
                        keep(table, place - 1, used | 1 << next);
                    }
                }
            }
        }

        /** The bits of a place with the places above it, line 0 anew having all signs 1: those of odd triples with it. */
        private int bitsOf(Table table, int place) {
            int first = table.minus[line[0]];
            int row = table.minus[line[place]] ^ first;
            int odd = (first >>> line[place] & 1) != 0 ? ~row : row;
            int bits = 0;
            for (int above = place + 1; above < table.size; above++) {
                bits |= (odd >>> line[above] & 1) << Table.bitOfPair(place, above);
            }
            return bits;
        }
    }

    /** A row of up to 100 items, made once and used again; an item is kept as its form would hold it. */
    private static final class Sheet {
        final int[] items = new int[MOST_ITEMS];
        boolean lost = true;
        int form = BYTES;
        int size = 0;

        void start(int newForm, int n) {
            lost = false;
            form = newForm;
            size = n;
            for (int i = 0; i < n; i++) {
                items[i] = 0;
            }
        }

        boolean hasItems(int from, int n) {
            return from >= 0 && n >= 0 && n <= size && from <= size - n;
        }

        /** The finding on an item that is treated as of a form, 0 if there is none. */
        int wrongWithItem(int wantedForm, int i) {
            if (lost) {
                return NULL;
            }
            if (form != wantedForm) {
                return CAST;
            }
            return i >= 0 && i < size ? 0 : INDEX;
        }

        void setItem(int i, int v) {
            if (form == BYTES) {
                items[i] = (byte) v;
            } else if (form == SHORTS) {
                items[i] = (short) v;
            } else {
                items[i] = v;
            }
        }
    }
}
