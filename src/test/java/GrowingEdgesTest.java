/** Promises 16 to 19: the boundary cases that the document's sentences name. */
public final class GrowingEdgesTest {
    private static final int BAD = Run.BAD, NOT = Run.NOT, FULL = Run.FULL;
    private static final int HERE = Run.HERE, LEAST = Run.LEAST, MOST = Run.MOST;

    private static final Run NEW = Run.start();
    private static final Run NONE = NEW.then("angle", 5).then("sheet", 2, 2, 100).then("sheet", 0, 0, -1);
    private static final Run FIVE = NONE.then("lines", 5).then("sign", 3, 4, -1);
    private static final Run TEN = NONE.then("lines", 10).then("sign", 8, 9, -1);
    private static final Run[] ALL = {NEW, NONE, FIVE, TEN};

    public static void main(String[] args) {
        dimensionsAreOneToTwenty();
        bitsOfLinesThatAreNotThere();
        bitZeroIsNotSet();
        toNoLines();
        toTenLines();
        badGoesBeforeNotAndFull();
        goesJustInItsRank();
        goesWithTheOwnNumberZero();
        waysOfOneLineAndOfNine();
        putToNoLines();
        putIsTheTenth();
        putNeedNotGo();
        growsNoLines();
        growsWhatLies();
        growsUpToItsRank();
        growsToTenAtMost();
        growsByTheLeastBits();
        Check.end();
    }

    private static Run lines(int n) {
        return NEW.then("lines", n);
    }

    private static Run allMinus(int n, int angle) {
        Run run = NEW.then("angle", angle).then("lines", n);
        for (int i = 0; i < n; i++) for (int j = 0; j < i; j++) run = run.then("sign", i, j, -1);
        return run;
    }

    /** "d dimensions (1 to 20)" */
    private static void dimensionsAreOneToTwenty() {
        FIVE.range(1, 20, BAD, "goes", 30, HERE);
        FIVE.range(1, 20, BAD, "ways", HERE);
        lines(1).range(1, 20, BAD, "goes", 0, HERE);
        lines(1).range(1, 20, BAD, "ways", HERE);
        lines(1).range(1, 20, BAD, "grow", HERE);
        for (Run run : ALL) {
            for (int d : new int[] {LEAST, -1, 0, 21, MOST}) {
                run.refuses(BAD, "goes", 0, d);
                run.refuses(BAD, "ways", d);
                run.refuses(BAD, "grow", d);
            }
        }
    }

    /** "BAD: also bits of LINES that are not there". */
    private static void bitsOfLinesThatAreNotThere() {
        for (int n = 1; n <= 9; n++) {
            int all = (1 << n) - 2;
            for (int bits : new int[] {1 << n, all + (1 << n), 1 << 10, 1 << 11, 1 << 30, MOST - 1, LEAST, -2, LEAST + all}) {
                if (bits >= 1 << n || bits < 0) {
                    lines(n).refuses(BAD, "goes", bits, 20);
                    lines(n).refuses(BAD, "put", bits);
                }
            }
            lines(n).takes("goes", all, 20);
            lines(n).answers(n, "put", all).answers(n - 1, "count", 2);
        }
    }

    /** "bit 0 set". */
    private static void bitZeroIsNotSet() {
        for (int n = 0; n <= 10; n++) {
            int all = (1 << n) - 1;
            for (int bits : new int[] {1, all, -1, MOST, LEAST + 1}) {
                if ((bits & 1) != 0) {
                    lines(n).refuses(BAD, "goes", bits, 20);
                    lines(n).refuses(BAD, "put", bits);
                }
            }
        }
    }

    /** "NOT: there are no LINES". */
    private static void toNoLines() {
        for (int d = 1; d <= 20; d++) {
            NONE.refuses(NOT, "goes", 0, d);
            NONE.refuses(NOT, "ways", d);
            NONE.refuses(NOT, "grow", d);
        }
        TEN.then("lines", 0).refuses(NOT, "ways", 20);
        lines(1).answers(1, "goes", 0, 2);
        lines(1).answers(1, "ways", 2);
    }

    /** "FULL: there are 10." */
    private static void toTenLines() {
        TEN.refuses(FULL, "goes", 0, 1);
        TEN.refuses(FULL, "goes", 1022, 20);
        TEN.refuses(FULL, "goes", 512, 20);
        TEN.refuses(FULL, "ways", 1);
        TEN.refuses(FULL, "ways", 20);
        TEN.refuses(FULL, "put", 0);
        TEN.refuses(FULL, "put", 512);
        TEN.refuses(FULL, "put", 1022);
        lines(9).then("put", 0).refuses(FULL, "put", 0);
        lines(9).answers(1, "goes", 0, 20);
        lines(9).answers(9, "put", 0);
    }

    /** "Refusals, the first that fits: BAD .., NOT .., FULL". */
    private static void badGoesBeforeNotAndFull() {
        for (int bits : new int[] {LEAST, -2, -1, 1, 2, 1024, MOST}) {
            NONE.refuses(BAD, "goes", bits, 20);
            NONE.refuses(BAD, "goes", bits, 0);
        }
        for (int bits : new int[] {LEAST, -2, -1, 1, 1023, 1024, MOST}) {
            TEN.refuses(BAD, "goes", bits, 20);
            TEN.refuses(BAD, "goes", bits, 21);
            TEN.refuses(BAD, "put", bits);
        }
        allMinus(5, 3).refuses(BAD, "grow", 0);
        allMinus(5, 3).refuses(BAD, "grow", 21);
    }

    /** "RANK at most d". */
    private static void goesJustInItsRank() {
        for (int n = 1; n <= 9; n++) {
            lines(n).answers(0, "goes", 0, n);
            lines(n).answers(1, "goes", 0, n + 1);
        }
        lines(3).then("sign", 1, 2, -1).answers(1, "goes", 6, 3);
        lines(3).then("sign", 1, 2, -1).answers(0, "goes", 6, 2);
    }

    /** "no own number below 0": a LINE more with -1s to a LINES gives 0, to a + 1 LINES one below. */
    private static void goesWithTheOwnNumberZero() {
        for (int a = 3; a <= 7; a += 2) {
            // LINE 0 turned about: its SIGNS are 1, so the next one's -1s are those with the others.
            Run some = allMinus(a, a).then("turn", 0);
            some.answers(1, "goes", (1 << a) - 2, a);
            some.answers(0, "goes", (1 << a) - 2, a - 1);
            Run more = allMinus(a + 1, a).then("turn", 0);
            more.answers(0, "goes", (1 << a + 1) - 2, 20);
        }
        // To LINES that do not lie none GOES.
        allMinus(5, 3).answers(0, "ways", 20);
    }

    /** "How many rows of bits GO": of one LINE there is one row, of nine there are 256. */
    private static void waysOfOneLineAndOfNine() {
        lines(1).answers(0, "ways", 1);
        lines(1).answers(1, "ways", 2);
        lines(1).answers(1, "ways", 20);
        lines(2).answers(0, "ways", 2);
        lines(2).answers(2, "ways", 3);
        NEW.then("angle", 9).then("lines", 9).answers(256, "ways", 20);
        NEW.then("angle", 9).then("lines", 9).answers(0, "ways", 9);
    }

    /** "(To no LINES: bits 0.)" */
    private static void putToNoLines() {
        NONE.range(0, 0, BAD, "put", HERE);
        NONE.refuses(BAD, "put", 2);
        NONE.answers(0, "put", 0).answers(1, "count", 0).answers(0, "at", 0, 0).answers(1, "put", 0).answers(1, "at", 0, 1);
    }

    /** "A LINE is put with bits: its number." */
    private static void putIsTheTenth() {
        Run run = NEW;
        for (int n = 0; n < 10; n++) run = run.answers(n, "put", n < 2 ? 0 : 1 << n - 1);
        run.answers(10, "count", 0).answers(8, "count", 2);
        run.answers(-1, "at", 9, 8).answers(-1, "at", 8, 9).answers(1, "at", 9, 7).answers(1, "at", 0, 9);
        run.refuses(BAD, "at", 10, 0);
    }

    /** A LINE may be put that does not GO: the promise names no refusal of it. */
    private static void putNeedNotGo() {
        Run cube = allMinus(4, 3).then("turn", 0);
        cube.answers(0, "goes", 14, 20);
        cube.answers(4, "put", 14).answers(0, "lies");
    }

    /** "NOT: there are no LINES": one is enough. */
    private static void growsNoLines() {
        NEW.refuses(NOT, "grow", 1);
        NEW.refuses(NOT, "grow", 20);
        TEN.then("lines", 0).refuses(NOT, "grow", 20);
        lines(1).answers(1, "grow", 1).answers(1, "count", 0);
    }

    /** "lies() is 0". */
    private static void growsWhatLies() {
        allMinus(4, 3).answers(4, "grow", 3);
        allMinus(5, 3).refuses(NOT, "grow", 5);
        allMinus(5, 3).refuses(NOT, "grow", 20);
        allMinus(10, 3).refuses(NOT, "grow", 20);
        allMinus(10, 7).refuses(NOT, "grow", 20);
        allMinus(10, 9).answers(10, "grow", 20);
    }

    /** "or RANK is above d". */
    private static void growsUpToItsRank() {
        for (int n = 1; n <= 10; n++) {
            lines(n).takes("grow", n);
            if (n > 1) lines(n).refuses(NOT, "grow", n - 1);
            if (n > 1) lines(n).refuses(NOT, "grow", 1);
        }
        allMinus(4, 3).refuses(NOT, "grow", 2);
        allMinus(10, 9).answers(10, "grow", 9);
        allMinus(10, 9).refuses(NOT, "grow", 8);
        TEN.answers(10, "grow", 10);
        TEN.refuses(NOT, "grow", 9);
    }

    /** "to 10 LINES at most, as long as some GO". */
    private static void growsToTenAtMost() {
        for (int n = 1; n <= 10; n++) lines(n).answers(10, "grow", 20).answers(10, "count", 0);
        lines(9).answers(10, "grow", 10).answers(10, "count", 0);
        lines(10).answers(10, "grow", 10).answers(0, "count", 2);
        lines(1).answers(2, "grow", 2).answers(2, "count", 0);
    }

    /** "the least bits that GO are put". */
    private static void growsByTheLeastBits() {
        lines(1).then("grow", 20).answers(0, "count", 2);
        Run cube = lines(3).then("sign", 1, 2, -1);
        cube.answers(1, "ways", 3);
        cube.answers(4, "grow", 3).answers(1, "at", 0, 3).answers(-1, "at", 1, 3).answers(-1, "at", 2, 3);
        // Ten rows of bits go to six LINES with all SIGNS 1 in six dimensions.
        Run grown = lines(6).then("grow", 6);
        int least = leastGoing(lines(6), 6);
        for (int i = 0; i < 6; i++) grown.answers((least >> i & 1) == 0 ? 1 : -1, "at", i, 6);
    }

    private static int leastGoing(Run run, int d) {
        for (int bits = 0; bits < 64; bits += 2) {
            if (run.answerOf("goes", bits, d) == 1) return bits;
        }
        Check.fail("no bits go");
        return 0;
    }
}
