/** Promises 1 to 37, each with its own words: what each of them tells, in its plainest cases. */
public final class PromisesTest {
    private static final int NONE = Run.NONE, BAD = Run.BAD, NOT = Run.NOT, FULL = Run.FULL;
    private static final int NULL = Run.NULL, INDEX = Run.INDEX, CAST = Run.CAST, STORE = Run.STORE, SIZE = Run.SIZE;
    private static final int HERE = Run.HERE, LEAST = Run.LEAST;

    private static final Run NEW = Run.start();
    /** Four LINES, the SIGNS of 0, 1 and of 1, 3 are -1: two TRIPLES are ODD. */
    private static final Run FOUR = lines(4).then("sign", 0, 1, -1).then("sign", 1, 3, -1);
    /** The diagonals of a cube. */
    private static final Run CUBE = lines(3).then("sign", 1, 2, -1).then("put", 6);

    public static void main(String[] args) throws Exception {
        Words promises = new Words();
        tables(promises);
        shapes(promises);
        growing(promises);
        names(promises);
        sets(promises);
        sheets(promises);
        moreSheets(promises);
        promises.areAll("## Promise 1:", "## Not promised");
        Check.end();
    }

    private static Run lines(int n) {
        return NEW.then("lines", n);
    }

    private static void tables(Words promises) {
        promises.of("`EvenLines()`: No LINES; ANGLE 3; all SHEETS are LOST.", () -> {
            NEW.answers(0, "count", 0).answers(3, "count", 1);
            for (int s = 0; s < 4; s++) NEW.refuses(NULL, "lose", s);
        });
        promises.of("`int lines(int n)`: N LINES (0 to 10), all SIGNS 1: how many there were. BAD.", () -> {
            FOUR.answers(4, "lines", 6).answers(6, "count", 0).answers(0, "count", 2).answers(1, "at", 0, 1);
            FOUR.range(0, 10, BAD, "lines", HERE);
        });
        promises.of("`int sign(int i, int j, int v)`: The SIGN of two LINES (1, -1): what it was. BAD: also of one with itself.", () -> {
            FOUR.answers(-1, "sign", 1, 0, 1).answers(1, "at", 0, 1).answers(1, "sign", 0, 1, -1).answers(-1, "at", 1, 0);
            FOUR.refuses(BAD, "sign", 2, 2, 1);
            FOUR.refuses(BAD, "sign", 0, 1, 0);
            FOUR.range(0, 2, BAD, "sign", HERE, 3, 1);
            FOUR.range(1, 3, BAD, "sign", 0, HERE, 1);
        });
        promises.of("`int at(int i, int j)`: What THE TABLE has at i, j. BAD.", () -> {
            FOUR.answers(-1, "at", 3, 1).answers(1, "at", 2, 0).answers(0, "at", 1, 1);
            FOUR.range(0, 3, BAD, "at", HERE, 0);
            FOUR.range(0, 3, BAD, "at", 0, HERE);
        });
        promises.of("`int turn(int i)`: A LINE is TURNED about: how many of its SIGNS are -1 then. BAD.", () -> {
            FOUR.answers(1, "turn", 1).answers(-1, "at", 1, 2).answers(1, "at", 0, 1).answers(1, "count", 2).answers(2, "turn", 1);
            FOUR.range(0, 3, BAD, "turn", HERE);
        });
        promises.of("`int change(int i, int j)`: LINES i and j change their numbers: 1. BAD.", () -> {
            FOUR.answers(1, "change", 1, 2).answers(-1, "at", 0, 2).answers(-1, "at", 2, 3).answers(1, "at", 0, 1).answers(1, "change", 3, 3);
            FOUR.range(0, 3, BAD, "change", HERE, 1);
            FOUR.range(0, 3, BAD, "change", 1, HERE);
        });
        promises.of("`int odd()`: How many TRIPLES are ODD.", () -> {
            FOUR.answers(2, "odd");
            lines(4).answers(0, "odd");
            CUBE.answers(4, "odd");
        });
        promises.of("`int together(int i, int j)`: In how many ODD TRIPLES two LINES are together. BAD: also one with itself.", () -> {
            FOUR.answers(1, "together", 0, 1).answers(0, "together", 0, 3).answers(2, "together", 1, 2).answers(1, "together", 2, 3);
            FOUR.refuses(BAD, "together", 1, 1);
            FOUR.range(0, 2, BAD, "together", HERE, 3);
            FOUR.range(1, 3, BAD, "together", 0, HERE);
        });
        promises.of("`int regular()`: Whether all two LINES are in equally many ODD TRIPLES (fewer than two LINES: 1).", () -> {
            FOUR.answers(0, "regular");
            CUBE.answers(1, "regular");
            for (int n = 0; n < 3; n++) lines(n).answers(1, "regular");
        });
    }

    private static void shapes(Words promises) {
        promises.of("`int angle(int a)`: ANGLE: what it was. BAD.", () -> {
            NEW.answers(3, "angle", 7).answers(7, "count", 1).answers(7, "angle", 5).answers(5, "count", 1);
            NEW.range(3, 9, BAD, "angle", HERE);
            NEW.refuses(BAD, "angle", 6);
        });
        promises.of("`long sums(int what, int k)`: e k of THE TABLE (what = 0), of THE SHAPE (1). BAD: k 0 to N.", () -> {
            CUBE.answers(1, "sums", 0, 0).answers(0, "sums", 0, 1).answers(-6, "sums", 0, 2).answers(-8, "sums", 0, 3).answers(-3, "sums", 0, 4);
            CUBE.answers(1, "sums", 1, 0).answers(12, "sums", 1, 1).answers(48, "sums", 1, 2).answers(64, "sums", 1, 3).answers(0, "sums", 1, 4);
            CUBE.range(0, 4, Run.BAD_LONG, "sums", 0, HERE);
            CUBE.range(0, 1, Run.BAD_LONG, "sums", HERE, 4);
        });
        promises.of("`int own(int x)`: How often a whole number x (-20 to 20) is an own number of THE TABLE. BAD.", () -> {
            for (int x = -20; x <= 20; x++) CUBE.answers(x == 1 ? 3 : x == -3 ? 1 : 0, "own", x);
            CUBE.range(-20, 20, BAD, "own", HERE);
        });
        promises.of("`int lies()`: Whether there are LINES so: 1, 0.", () -> {
            CUBE.answers(1, "lies");
            CUBE.then("put", 14).answers(0, "lies").answers(3, "angle", 5).answers(1, "lies");
        });
        promises.of("`int rank()`: RANK of THE SHAPE.", () -> {
            CUBE.answers(3, "rank").answers(3, "angle", 5).answers(4, "rank");
            CUBE.then("put", 14).answers(5, "rank");
        });
        promises.of("`int bound(int d)`: THE BOUND. BAD.", () -> {
            NEW.answers(4, "bound", 3).answers(16, "bound", 6).answers(28, "bound", 7).answers(36, "bound", 8).answers(210, "bound", 20);
            NEW.then("angle", 5).answers(7, "bound", 6).answers(96, "bound", 20);
            NEW.range(1, 20, BAD, "bound", HERE);
        });
    }

    private static void growing(Words promises) {
        promises.of("`int goes(int bits, int d)`: Whether a LINE with bits GOES in d dimensions (1 to 20): 1, 0. "
            + "BAD: also bits of LINES that are not there, bit 0 set; NOT: there are no LINES; FULL: there are 10.", () -> {
            Run three = lines(3).then("sign", 1, 2, -1);
            three.answers(1, "goes", 6, 3).answers(0, "goes", 6, 2).answers(0, "goes", 0, 3).answers(1, "goes", 0, 4).answers(3, "count", 0);
            three.range(1, 20, BAD, "goes", 6, HERE);
            three.refuses(BAD, "goes", 8, 3);
            three.refuses(BAD, "goes", 7, 3);
            NEW.refuses(NOT, "goes", 0, 3);
            lines(10).refuses(FULL, "goes", 0, 3);
        });
        promises.of("`int ways(int d)`: How many rows of bits GO. BAD; NOT; FULL.", () -> {
            lines(3).then("sign", 1, 2, -1).answers(1, "ways", 3).answers(4, "ways", 4);
            lines(6).answers(10, "ways", 6);
            FOUR.range(1, 20, BAD, "ways", HERE);
            NEW.refuses(NOT, "ways", 3);
            lines(10).refuses(FULL, "ways", 3);
        });
        promises.of("`int put(int bits)`: A LINE is put with bits: its number. BAD; FULL: there are 10. (To no LINES: bits 0.)", () -> {
            FOUR.answers(4, "put", 10).answers(1, "at", 4, 0).answers(-1, "at", 4, 1).answers(1, "at", 2, 4).answers(-1, "at", 3, 4);
            FOUR.range(0, 14, BAD, "put", HERE);
            FOUR.refuses(BAD, "put", 1);
            lines(10).refuses(FULL, "put", 0);
            NEW.range(0, 0, BAD, "put", HERE);
            NEW.answers(0, "put", 0).answers(1, "count", 0);
        });
        promises.of("`int grow(int d)`: GROWING: how many LINES there are then. "
            + "BAD: d; NOT: there are no LINES, lies() is 0, or RANK is above d.", () -> {
            lines(3).then("sign", 1, 2, -1).answers(4, "grow", 3).answers(-1, "at", 1, 3).answers(-1, "at", 2, 3).answers(4, "count", 0);
            lines(1).answers(10, "grow", 20).answers(10, "count", 0);
            lines(10).answers(10, "grow", 10).answers(10, "count", 0);
            lines(1).range(1, 20, BAD, "grow", HERE);
            NEW.refuses(NOT, "grow", 3);
            CUBE.then("put", 14).refuses(NOT, "grow", 20);
            lines(3).refuses(NOT, "grow", 2);
        });
    }

    private static void names(Words promises) {
        Run pentagon = lines(5);
        for (int i = 0; i < 5; i++) pentagon = pentagon.then("sign", i, (i + 1) % 5, -1);
        Run five = pentagon;
        promises.of("`int name()`: THE NAME. NOT: above 7 LINES.", () -> {
            five.answers(13, "name");
            five.then("turn", 2).then("change", 1, 4).answers(13, "name");
            lines(7).answers(0, "name");
            lines(8).refuses(NOT, "name");
        });
        promises.of("`int plain()`: THE TABLE becomes that of THE NAME: how many LINES have other SIGNS than they had. NOT.", () -> {
            lines(5).then("sign", 0, 1, -1).answers(3, "plain").answers(-1, "at", 1, 2).answers(1, "count", 2).answers(0, "plain");
            // LINE 2 has its -1s with 1 and 3, as before.
            five.answers(4, "plain").answers(3, "count", 2).answers(-1, "at", 1, 2).answers(-1, "at", 2, 3).answers(-1, "at", 1, 4);
            lines(8).then("turn", 1).refuses(NOT, "plain");
        });
        promises.of("`int group()`: GROUP. NOT: above 7 LINES.", () -> {
            five.answers(10, "group");
            five.then("put", 0).answers(60, "group");
            lines(7).answers(5040, "group");
            lines(8).refuses(NOT, "group");
        });
        promises.of("`int kinds(int n)`: KINDS. BAD.", () -> {
            NEW.answers(1, "kinds", 1).answers(1, "kinds", 2).answers(2, "kinds", 3).answers(3, "kinds", 4).answers(7, "kinds", 5);
            FOUR.answers(7, "kinds", 5).answers(4, "count", 0).answers(2, "count", 2).answers(-1, "at", 1, 3);
            NEW.range(1, 5, BAD, "kinds", HERE);
        });
    }

    private static void sets(Words promises) {
        promises.of("`int hits(int v, int bits, int step)`: HITS. BAD: v, bits that are none, the step.", () -> {
            NEW.answers(1, "hits", 5, 3, 1).answers(1, "hits", 5, 3, 4).answers(0, "hits", 5, 3, 2);
            NEW.range(2, 31, BAD, "hits", HERE, 3, 1);
            NEW.range(0, 31, BAD, "hits", 5, HERE, 1);
            NEW.range(1, 4, BAD, "hits", 5, 3, HERE);
        });
        promises.of("`int even(int v, int bits)`: How many HITS all steps have, if it is EVEN; NONE. BAD.", () -> {
            NEW.answers(1, "even", 7, 11).answers(2, "even", 7, 116).answers(NONE, "even", 7, 7).answers(0, "even", 7, 0);
            NEW.range(2, 31, BAD, "even", HERE, 3);
            NEW.range(0, 127, BAD, "even", 7, HERE);
        });
        promises.of("`int welch(int v, int k)`: THE WELCH. BAD: v 2 to 31, k 1 to v.", () -> {
            NEW.answers(222222, "welch", 7, 3).answers(138888, "welch", 31, 6).answers(1000000, "welch", 2, 1).answers(0, "welch", 9, 9);
            NEW.range(2, 31, BAD, "welch", HERE, 2);
            NEW.range(1, 7, BAD, "welch", 7, HERE);
        });
        promises.of("`int multipliers(int v, int bits)`: How many MULTIPLIERS. BAD.", () -> {
            NEW.answers(3, "multipliers", 7, 11).answers(2, "multipliers", 8, 3).answers(4, "multipliers", 8, 0);
            NEW.range(2, 31, BAD, "multipliers", HERE, 3);
            NEW.range(0, 127, BAD, "multipliers", 7, HERE);
        });
        promises.of("`int find(int v, int k)`: The least EVEN set as bits, of k numbers (1 to v; v 2 to 15) with 0 in it; NONE. BAD.", () -> {
            NEW.answers(11, "find", 7, 3).answers(83, "find", 13, 4).answers(1335, "find", 15, 7).answers(NONE, "find", 8, 3);
            NEW.range(2, 15, BAD, "find", HERE, 2);
            NEW.range(1, 7, BAD, "find", 7, HERE);
        });
    }

    private static void sheets(Words promises) {
        Run one = NEW.then("sheet", 1, 1, 3).then("lay", 1, 1, 2, 5);
        promises.of("`int sheet(int s, int form, int n)`: A SHEET is a new row of a FORM with n items: n. "
            + "BAD: SHEET, FORM, above 100; SIZE.", () -> {
            one.answers(4, "sheet", 1, 2, 4).answers(0, "get", 1, 2, 2).answers(0, "get", 1, 2, 3).answers(4, "lose", 1);
            one.range(0, 3, BAD, "sheet", HERE, 1, 3);
            one.range(0, 2, BAD, "sheet", 1, HERE, 3);
            one.answers(100, "sheet", 1, 1, 100);
            one.refuses(BAD, "sheet", 1, 1, 101);
            one.refuses(SIZE, "sheet", 1, 1, -1);
        });
        promises.of("`int lose(int s)`: It is LOST: how many items it had. BAD; NULL.", () -> {
            one.answers(3, "lose", 1).refuses(NULL, "lose", 1);
            one.refuses(BAD, "lose", 4);
            one.refuses(NULL, "lose", 0);
        });
        promises.of("`int lay(int s, int form, int i, int v)`: Item i, treated as of a FORM, becomes v (the lowest bits that it has): 1. "
            + "BAD; NULL; CAST; INDEX.", () -> {
            one.answers(1, "lay", 1, 1, 0, 65537).answers(1, "get", 1, 1, 0).answers(1, "lay", 1, 1, 1, 32768).answers(-32768, "get", 1, 1, 1)
                .answers(5, "get", 1, 1, 2);
            one.refuses(BAD, "lay", 4, 1, 0, 9);
            one.refuses(BAD, "lay", 1, 3, 0, 9);
            one.refuses(NULL, "lay", 0, 1, 0, 9);
            one.refuses(CAST, "lay", 1, 2, 3, 9);
            one.refuses(INDEX, "lay", 1, 1, 3, 9);
        });
        promises.of("`int get(int s, int form, int i)`: Item i of it. BAD: the least int; so are NULL, CAST, INDEX (count() 3 tells).", () -> {
            one.answers(5, "get", 1, 1, 2).answers(0, "get", 1, 1, 1).answers(0, "count", 3);
            one.answers(LEAST, "get", 4, 1, 2).answers(0, "count", 3);
            one.answers(LEAST, "get", 0, 1, 2).answers(1, "count", 3);
            one.answers(LEAST, "get", 1, 0, 2).answers(3, "count", 3);
            one.answers(LEAST, "get", 1, 1, 3).answers(2, "count", 3);
        });
        promises.of("`int copy(int s, int i, int t, int j, int n)`: n items of SHEET s, from i on, come to SHEET t (perhaps s, as they were), "
            + "from j on: 1. BAD: the SHEETS; NULL: s, t; STORE; INDEX: below 0, not so many.", () -> {
            Run two = one.then("lay", 1, 1, 0, 3).then("lay", 1, 1, 1, 4).then("sheet", 2, 1, 4).then("sheet", 3, 0, 4);
            two.answers(1, "copy", 1, 1, 2, 2, 2).answers(0, "get", 2, 1, 1).answers(4, "get", 2, 1, 2).answers(5, "get", 2, 1, 3);
            two.answers(1, "copy", 1, 0, 1, 1, 2).answers(3, "get", 1, 1, 0).answers(3, "get", 1, 1, 1).answers(4, "get", 1, 1, 2);
            two.refuses(BAD, "copy", 4, 0, 1, 0, 1);
            two.refuses(BAD, "copy", 1, 0, 4, 0, 1);
            two.refuses(NULL, "copy", 0, 0, 3, 0, 1);
            two.refuses(NULL, "copy", 3, 0, 0, 0, 1);
            two.refuses(STORE, "copy", 1, -1, 3, 0, 1);
            two.range(0, 2, INDEX, "copy", 1, HERE, 2, 0, 1);
            two.range(0, 3, INDEX, "copy", 1, 0, 2, HERE, 1);
            two.range(0, 3, INDEX, "copy", 1, 0, 2, 0, HERE);
        });
    }

    private static void moreSheets(Words promises) {
        Run six = NEW.then("sheet", 0, 0, 6).then("lay", 0, 0, 2, -1).then("lay", 0, 0, 3, -1).then("lay", 0, 0, 5, 128).then("lines", 5);
        promises.of("`int load(int s, int n)`: N LINES (0 to 10), their SIGNS by items N i and j of a SHEET for i below j: -1, if it is below 0, "
            + "else 1: N. BAD: SHEET, N; NULL; INDEX: an item that is wanted is not there.", () -> {
            six.answers(3, "load", 0, 3).answers(3, "count", 0).answers(1, "at", 0, 1).answers(-1, "at", 0, 2).answers(-1, "at", 2, 1);
            six.then("sheet", 1, 2, 90).range(0, 10, BAD, "load", 1, HERE);
            six.refuses(BAD, "load", 4, 3);
            six.refuses(NULL, "load", 1, 3);
            six.refuses(INDEX, "load", 0, 4);
            six.then("sheet", 0, 0, 5).refuses(INDEX, "load", 0, 3);
        });
        promises.of("`int write(int s)`: THE TABLE comes to a SHEET, item N i and j: N N. BAD; NULL; INDEX: it has fewer items.", () -> {
            Run two = six.then("lines", 2).then("turn", 0);
            two.answers(4, "write", 0).answers(0, "get", 0, 0, 0).answers(-1, "get", 0, 0, 1).answers(-1, "get", 0, 0, 2)
                .answers(0, "get", 0, 0, 3).answers(0, "get", 0, 0, 4).answers(-128, "get", 0, 0, 5);
            two.refuses(BAD, "write", 4);
            two.refuses(NULL, "write", 1);
            NEW.refuses(NULL, "write", 1);
            six.then("lines", 3).refuses(INDEX, "write", 0);
        });
        promises.of("`int count(int what)`: 0 LINES, 1 ANGLE, 2 SIGNS that are -1, 3 the number of the latest FINDING (0 before any). BAD.", () -> {
            FOUR.answers(4, "count", 0).answers(3, "count", 1).answers(2, "count", 2).answers(0, "count", 3);
            FOUR.then("lose", 0).then("sheet", 0, 0, -1).answers(5, "count", 3).then("lines", 2).then("sheet", 0, 0, 1).answers(5, "count", 3);
            FOUR.range(0, 3, BAD, "count", HERE);
        });
        promises.of("`long digest()`: h is 17; h becomes 31 h and each of: count() 0 to 2, THE TABLE row by row, odd(); as longs that wrap.", () -> {
            long h = 17;
            for (int each : new int[] {4, 5, 2, 0, -1, 1, 1, -1, 0, 1, -1, 1, 1, 0, 1, 1, -1, 1, 0, 2}) h = 31 * h + each;
            FOUR.then("angle", 5).then("lose", 0).answers(h, "digest");
        });
    }
}
