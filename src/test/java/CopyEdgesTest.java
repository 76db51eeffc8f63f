/** Promises 33 to 37: the boundary cases that the document's sentences name. */
public final class CopyEdgesTest {
    private static final int BAD = Run.BAD, NULL = Run.NULL, INDEX = Run.INDEX, STORE = Run.STORE;
    private static final int HERE = Run.HERE, LEAST = Run.LEAST, MOST = Run.MOST;

    private static final Run NEW = Run.start();
    /** SHEET 0 is LOST, 1 ints of no items, 2 ints of 100 items, 3 bytes of three items; the latest finding is SIZE. */
    private static final Run FOUR = NEW.then("lines", 10).then("sign", 0, 1, -1).then("sheet", 1, 2, 0).then("sheet", 2, 2, 100)
        .then("write", 2).then("lay", 2, 2, 99, 99).then("sheet", 3, 0, 3).then("lay", 3, 0, 2, 3).then("sheet", 0, 0, -1);

    public static void main(String[] args) {
        copyNull();
        copyStoreGoesBeforeIndex();
        copyIndexBelowZero();
        copyNotSoMany();
        copyOfNoItems();
        copyOfAHundredItems();
        copyOntoItself();
        loadsUpToTenLines();
        loadsFromALostSheet();
        loadsTheItemsThatAreWanted();
        loadsWhatIsBelowZero();
        writesToALostSheet();
        writesAllItems();
        countsWhat();
        digestsFromNoLinesToTen();
        theLastCallIsPromised();
        Check.end();
    }

    /** "BAD: the SHEETS; NULL: s, t". */
    private static void copyNull() {
        for (int other = 0; other < 4; other++) {
            FOUR.refuses(NULL, "copy", 0, 0, other, 0, 0);
            FOUR.refuses(NULL, "copy", other, 0, 0, 0, 0);
            // NULL goes before STORE and INDEX.
            FOUR.refuses(NULL, "copy", 0, -1, other, 0, 1);
            FOUR.refuses(NULL, "copy", other, 0, 0, MOST, LEAST);
        }
        for (int none : new int[] {LEAST, -1, 4, MOST}) {
            for (int other = 0; other < 4; other++) {
                FOUR.refuses(BAD, "copy", none, 0, other, 0, 0);
                FOUR.refuses(BAD, "copy", other, 0, none, 0, 0);
                FOUR.refuses(BAD, "copy", none, -1, other, -1, -1);
            }
            FOUR.refuses(BAD, "copy", none, 0, none, 0, 0);
        }
    }

    /** "4 STORE: unlike FORMS". */
    private static void copyStoreGoesBeforeIndex() {
        FOUR.refuses(STORE, "copy", 2, 0, 3, 0, 0);
        FOUR.refuses(STORE, "copy", 3, 0, 2, 0, 3);
        FOUR.refuses(STORE, "copy", 1, 0, 3, 0, 0);
        FOUR.never(STORE, "copy", 2, HERE, 3, 0, 1);
        FOUR.never(STORE, "copy", 2, 0, 3, HERE, 1);
        FOUR.never(STORE, "copy", 2, 0, 3, 0, HERE);
        for (int form = 0; form < 3; form++) {
            for (int other = 0; other < 3; other++) {
                Run two = NEW.then("sheet", 0, form, 2).then("sheet", 1, other, 2).then("lay", 0, form, 1, 7);
                if (form == other) two.answers(1, "copy", 0, 0, 1, 0, 2).answers(7, "get", 1, other, 1);
                else two.refuses(STORE, "copy", 0, 0, 1, 0, 2);
            }
        }
    }

    /** "INDEX: below 0": nothing is copied, not even what would go. */
    private static void copyIndexBelowZero() {
        for (int below : new int[] {-1, -2, -100, LEAST + 1, LEAST}) {
            for (int n : new int[] {0, 1, 3, MOST}) {
                FOUR.refuses(INDEX, "copy", 3, below, 3, 0, n);
                FOUR.refuses(INDEX, "copy", 3, 0, 3, below, n);
            }
            FOUR.refuses(INDEX, "copy", 3, 0, 3, 0, below);
            FOUR.refuses(INDEX, "copy", 3, 3, 3, 3, below);
            FOUR.refuses(INDEX, "copy", 2, 50, 2, 0, below);
        }
    }

    /** "not so many": of the items of s from i on, of those of t from j on. */
    private static void copyNotSoMany() {
        FOUR.range(0, 3, INDEX, "copy", 3, 0, 3, 0, HERE);
        FOUR.range(0, 1, INDEX, "copy", 3, 2, 3, 0, HERE);
        FOUR.range(0, 1, INDEX, "copy", 3, 0, 3, 2, HERE);
        FOUR.range(0, 2, INDEX, "copy", 3, HERE, 3, 0, 1);
        FOUR.range(0, 2, INDEX, "copy", 3, 0, 3, HERE, 1);
        FOUR.range(0, 100, INDEX, "copy", 2, 0, 2, 0, HERE);
        FOUR.range(0, 1, INDEX, "copy", 2, 99, 2, 0, HERE);
        FOUR.range(0, 99, INDEX, "copy", 2, HERE, 2, 0, 1);
        FOUR.range(0, 99, INDEX, "copy", 2, 0, 2, HERE, 1);
        // Sums of a place and a number that wrap around.
        FOUR.refuses(INDEX, "copy", 2, 1, 2, 0, MOST);
        FOUR.refuses(INDEX, "copy", 2, 0, 2, 1, MOST);
        FOUR.refuses(INDEX, "copy", 2, MOST, 2, 0, 1);
        FOUR.refuses(INDEX, "copy", 2, 0, 2, MOST, 1);
        FOUR.refuses(INDEX, "copy", 2, MOST, 2, MOST, MOST);
    }

    /** No items are there at a row's end, too, but not beyond it. */
    private static void copyOfNoItems() {
        FOUR.range(0, 0, INDEX, "copy", 1, HERE, 1, 0, 0);
        FOUR.range(0, 0, INDEX, "copy", 1, 0, 1, HERE, 0);
        FOUR.range(0, 0, INDEX, "copy", 1, 0, 1, 0, HERE);
        FOUR.range(0, 0, INDEX, "copy", 1, 0, 2, 0, HERE);
        FOUR.range(0, 0, INDEX, "copy", 2, 0, 1, 0, HERE);
        FOUR.range(0, 3, INDEX, "copy", 3, HERE, 3, 0, 0);
        FOUR.range(0, 3, INDEX, "copy", 3, 0, 3, HERE, 0);
        FOUR.range(0, 100, INDEX, "copy", 2, HERE, 2, 100, 0);
        FOUR.answers(1, "copy", 1, 0, 2, 100, 0).answers(99, "get", 2, 2, 99);
    }

    private static void copyOfAHundredItems() {
        Run two = FOUR.then("sheet", 0, 2, 100);
        two.answers(1, "copy", 2, 0, 0, 0, 100).answers(99, "get", 0, 2, 99).answers(-1, "get", 0, 2, 1).answers(99, "get", 2, 2, 99);
        two.answers(1, "copy", 2, 99, 0, 0, 1).answers(99, "get", 0, 2, 0).answers(0, "get", 0, 2, 1);
        two.answers(1, "copy", 2, 1, 0, 99, 1).answers(-1, "get", 0, 2, 99).answers(0, "get", 0, 2, 98);
    }

    /** "(perhaps s, as they were)". */
    private static void copyOntoItself() {
        Run row = NEW.then("sheet", 0, 1, 100);
        for (int i = 0; i < 100; i++) row = row.then("lay", 0, 1, i, i);
        Run up = row.answers(1, "copy", 0, 0, 0, 1, 99);
        Run down = row.answers(1, "copy", 0, 1, 0, 0, 99);
        Run same = row.answers(1, "copy", 0, 0, 0, 0, 100);
        for (int i = 0; i < 100; i++) {
            up.answers(i == 0 ? 0 : i - 1, "get", 0, 1, i);
            down.answers(i == 99 ? 99 : i + 1, "get", 0, 1, i);
            same.answers(i, "get", 0, 1, i);
        }
    }

    /** "N LINES (0 to 10) .. BAD: SHEET, N; NULL". */
    private static void loadsUpToTenLines() {
        FOUR.range(0, 10, BAD, "load", 2, HERE);
        FOUR.answers(10, "load", 2, 10).answers(10, "count", 0);
        FOUR.answers(0, "load", 2, 0).answers(0, "count", 0);
        FOUR.answers(1, "load", 2, 1).answers(1, "count", 0);
    }

    private static void loadsFromALostSheet() {
        for (int n = 0; n <= 10; n++) FOUR.refuses(NULL, "load", 0, n);
        for (int n : new int[] {LEAST, -1, 11, MOST}) {
            // BAD goes before NULL and INDEX.
            FOUR.refuses(BAD, "load", 0, n);
            FOUR.refuses(BAD, "load", 1, n);
        }
    }

    /** "INDEX: an item that is wanted is not there": the last one that is wanted is N (N - 2) and N - 1. */
    private static void loadsTheItemsThatAreWanted() {
        for (int n = 0; n <= 10; n++) {
            int wanted = n < 2 ? 0 : n * (n - 1);
            Run enough = FOUR.then("sheet", 0, n % 3, wanted);
            enough.answers(n, "load", 0, n).answers(n, "count", 0).answers(0, "count", 2);
            if (n > 1) {
                FOUR.then("sheet", 0, n % 3, wanted - 1).refuses(INDEX, "load", 0, n);
                FOUR.then("sheet", 0, n % 3, 0).refuses(INDEX, "load", 0, n);
                enough.then("lay", 0, n % 3, wanted - 1, -1).then("load", 0, n).answers(-1, "at", n - 2, n - 1).answers(1, "count", 2);
            }
        }
        FOUR.answers(0, "load", 1, 0);
        FOUR.answers(1, "load", 1, 1);
        FOUR.refuses(INDEX, "load", 1, 2);
    }

    /** "items N i and j .. for i below j: -1, if it is below 0, else 1". */
    private static void loadsWhatIsBelowZero() {
        int[][] items = {{0, 127, 1}, {0, 128, -1}, {0, -1, -1}, {0, 0, 1}, {0, 256, 1}, {1, 32767, 1}, {1, 32768, -1},
            {1, 65536, 1}, {1, 128, 1}, {2, MOST, 1}, {2, LEAST, -1}, {2, 32768, 1}, {2, -1, -1}, {2, 0, 1}};
        for (int[] it : items) {
            FOUR.then("sheet", 0, it[0], 2).then("lay", 0, it[0], 1, it[1]).then("load", 0, 2).answers(it[2], "at", 0, 1);
        }
        // Those of i not below j are not looked at, nor changed.
        Run lower = FOUR.then("sheet", 0, 2, 9);
        for (int i : new int[] {0, 3, 4, 6, 7, 8}) lower = lower.then("lay", 0, 2, i, -1);
        lower.answers(3, "load", 0, 3).answers(0, "count", 2).answers(-1, "get", 0, 2, 3).answers(0, "get", 0, 2, 1);
        // What was there before does not stay.
        FOUR.then("sheet", 0, 0, 90).then("load", 0, 10).answers(0, "count", 2).answers(3, "count", 1);
    }

    /** "BAD; NULL; INDEX": with no LINES, too. */
    private static void writesToALostSheet() {
        FOUR.refuses(NULL, "write", 0);
        FOUR.then("lines", 0).refuses(NULL, "write", 0);
        for (int s : new int[] {LEAST, -1, 4, MOST}) FOUR.refuses(BAD, "write", s);
    }

    /** "item N i and j: N N", "INDEX: it has fewer items". */
    private static void writesAllItems() {
        for (int n = 0; n <= 10; n++) {
            Run some = FOUR.then("lines", n);
            if (n > 1) some = some.then("sign", n - 2, n - 1, -1);
            for (int form = 0; form < 3; form++) {
                Run enough = some.then("sheet", 0, form, n * n).answers(n * n, "write", 0);
                if (n > 1) enough.answers(-1, "get", 0, form, n * n - 2).answers(-1, "get", 0, form, n * n - n - 1)
                    .answers(0, "get", 0, form, n * n - 1);
                if (n > 0) some.then("sheet", 0, form, n * n - 1).refuses(INDEX, "write", 0);
                if (n > 0) some.then("sheet", 0, form, 0).refuses(INDEX, "write", 0);
            }
        }
        FOUR.refuses(INDEX, "write", 1);
        FOUR.refuses(INDEX, "write", 3);
        FOUR.then("lines", 9).answers(81, "write", 2).answers(99, "get", 2, 2, 99).answers(0, "get", 2, 2, 80);
        FOUR.then("lines", 0).answers(0, "write", 2).answers(-1, "get", 2, 2, 1);
        FOUR.answers(100, "write", 2).answers(0, "get", 2, 2, 99);
    }

    /** "0 LINES, 1 ANGLE, 2 SIGNS that are -1, 3 the number of the latest FINDING". */
    private static void countsWhat() {
        FOUR.range(0, 3, BAD, "count", HERE);
        NEW.range(0, 3, BAD, "count", HERE);
        Run minus = NEW.then("lines", 10);
        for (int i = 0; i < 10; i++) for (int j = 0; j < i; j++) minus = minus.then("sign", i, j, -1);
        minus.answers(45, "count", 2).answers(10, "count", 0);
        FOUR.answers(1, "count", 2).answers(5, "count", 3).answers(3, "count", 1);
    }

    /** "h becomes 31 h and each of: count() 0 to 2, THE TABLE row by row, odd(); as longs that wrap". */
    private static void digestsFromNoLinesToTen() {
        for (int n = 0; n <= 10; n++) {
            long h = 31 * (31 * (31 * 17L + n) + 9);
            h += n > 1 ? 1 : 0;
            for (int i = 0; i < n; i++) {
                for (int j = 0; j < n; j++) h = 31 * h + (i == j ? 0 : n > 1 && i + j == 2 * n - 3 && Math.abs(i - j) == 1 ? -1 : 1);
            }
            h = 31 * h + (n > 1 ? n - 2 : 0);
            Run some = FOUR.then("angle", 9).then("lines", n);
            if (n > 1) some = some.then("sign", n - 2, n - 1, -1);
            some.answers(h, "digest");
            some.then("sheet", 0, 0, -1).then("lose", 2).answers(h, "digest");
        }
    }

    /** "An object is used for at most 512 calls": the 512th is the last that is promised. */
    private static void theLastCallIsPromised() {
        EvenLines x = new EvenLines();
        Model m = new Model();
        Check.due("call 1", x.lines(10), m.lines(10));
        for (int call = 2; call < 512; call += 3) {
            int i = call % 10;
            int j = (i + 1 + call % 7) % 10;
            Check.due("call " + call, x.sign(i, j, -1), m.sign(i, j, -1));
            Check.due("call " + (call + 1), x.turn(i), m.turn(i));
            Check.due("call " + (call + 2), x.sheet(i % 4, i % 3, 100), m.sheet(i % 4, i % 3, 100));
        }
        Check.due("call 512", x.digest(), m.digest());
    }
}
