/** Promises 10 to 15: the boundary cases that the document's sentences name. */
public final class ShapeEdgesTest {
    private static final int BAD = Run.BAD, HERE = Run.HERE, LEAST = Run.LEAST, MOST = Run.MOST;
    private static final long BAD_LONG = Run.BAD_LONG;

    private static final Run NEW = Run.start();
    private static final Run ONE = NEW.then("lines", 1);
    private static final Run TEN = NEW.then("lines", 10).then("sheet", 1, 0, 100).then("lose", 0);

    public static void main(String[] args) {
        anglesAreOddAndThreeToNine();
        sumsOfWhat();
        sumsTo();
        sumsAtBothEnds();
        ownNumbersAreWithinTwenty();
        ownNumbersOfFewAndOfTen();
        ownNumberZeroStillLies();
        rankOfNoLines();
        boundsInOneToTwentyDimensions();
        boundWhereDimensionsReachTheSquare();
        boundIsRoundedDownAndTheLesser();
        Check.end();
    }

    /** Lines any two of which have SIGN -1. */
    private static Run allMinus(int n, int angle) {
        Run run = NEW.then("angle", angle).then("lines", n);
        for (int i = 0; i < n; i++) for (int j = 0; j < i; j++) run = run.then("sign", i, j, -1);
        return run;
    }

    /** "an ANGLE a (3 to 9, odd; 3 at first)", "ANGLE: what it was." */
    private static void anglesAreOddAndThreeToNine() {
        NEW.range(3, 9, BAD, "angle", HERE);
        TEN.range(3, 9, BAD, "angle", HERE);
        NEW.answers(3, "angle", 3).answers(3, "angle", 5).answers(5, "angle", 7).answers(7, "angle", 9).answers(9, "angle", 9)
            .answers(9, "angle", 3);
        for (int a : new int[] {4, 6, 8, 1, 11, 0, -1, -3, -9, LEAST + 3, MOST - 2}) {
            NEW.then("angle", 9).refuses(BAD, "angle", a);
        }
    }

    /** "THE TABLE (what = 0), of THE SHAPE (1)", "a refusal -x is the least long and x more". */
    private static void sumsOfWhat() {
        TEN.range(0, 1, BAD_LONG, "sums", HERE, 0);
        TEN.range(0, 1, BAD_LONG, "sums", HERE, 10);
        NEW.range(0, 1, BAD_LONG, "sums", HERE, 0);
        TEN.refuses(BAD_LONG, "sums", 2, 11);
        TEN.refuses(-9223372036854775806L, "sums", LEAST, MOST);
    }

    /** "BAD: k 0 to N." */
    private static void sumsTo() {
        for (int what = 0; what < 2; what++) {
            for (int n = 0; n <= 10; n++) NEW.then("lines", n).range(0, n, BAD_LONG, "sums", what, HERE);
        }
    }

    /** "e 0 is 1"; e 1 is the diagonal's sum, e N the determinant. */
    private static void sumsAtBothEnds() {
        NEW.answers(1, "sums", 0, 0).answers(1, "sums", 1, 0);
        ONE.answers(1, "sums", 0, 0).answers(0, "sums", 0, 1).answers(1, "sums", 1, 0).answers(3, "sums", 1, 1);
        TEN.answers(1, "sums", 0, 0).answers(0, "sums", 0, 1).answers(-9, "sums", 0, 10);
        TEN.answers(1, "sums", 1, 0).answers(30, "sums", 1, 1).answers(12 * 512, "sums", 1, 10);
        TEN.then("angle", 9).answers(90, "sums", 1, 1).answers(18L * 134217728, "sums", 1, 10).answers(-9, "sums", 0, 10);
        allMinus(10, 9).answers(0, "sums", 1, 10).answers(1000000000, "sums", 1, 9).answers(-9, "sums", 0, 10);
        allMinus(9, 7).answers(-134217728L / 8, "sums", 1, 9);
    }

    /** "a whole number x (-20 to 20)". */
    private static void ownNumbersAreWithinTwenty() {
        NEW.range(-20, 20, BAD, "own", HERE);
        TEN.range(-20, 20, BAD, "own", HERE);
        TEN.answers(0, "own", 20).answers(0, "own", -20);
    }

    /** "How often": of no LINES never, of one LINE 0 once, of 10 LINES ten times together. */
    private static void ownNumbersOfFewAndOfTen() {
        for (int x = -20; x <= 20; x++) {
            NEW.answers(0, "own", x);
            ONE.answers(x == 0 ? 1 : 0, "own", x);
            TEN.answers(x == 9 ? 1 : x == -1 ? 9 : 0, "own", x);
            allMinus(10, 3).answers(x == -9 ? 1 : x == 1 ? 9 : 0, "own", x);
        }
    }

    /** "if it has no own number below 0": -1s between a + 1 LINES give the own number 0, between one more -1. */
    private static void ownNumberZeroStillLies() {
        for (int a = 3; a <= 9; a += 2) {
            allMinus(a, a).answers(1, "lies").answers(a, "rank");
            allMinus(a + 1, a).answers(1, "lies").answers(a, "rank");
            if (a < 9) allMinus(a + 2, a).answers(0, "lies").answers(a + 2, "rank");
        }
    }

    /** "the rank of THE SHAPE": of no LINES 0, and no LINES lie. */
    private static void rankOfNoLines() {
        NEW.answers(0, "rank").answers(1, "lies");
        ONE.answers(1, "rank").answers(1, "lies");
        TEN.answers(10, "rank").answers(1, "lies");
        TEN.then("lines", 0).answers(0, "rank").answers(1, "lies");
    }

    /** "BOUNDS in d dimensions (1 to 20)". */
    private static void boundsInOneToTwentyDimensions() {
        for (int a = 3; a <= 9; a += 2) {
            NEW.then("angle", a).range(1, 20, BAD, "bound", HERE);
            NEW.then("angle", a).answers(1, "bound", 1);
            TEN.then("angle", a).range(1, 20, BAD, "bound", HERE);
        }
        NEW.answers(210, "bound", 20);
        NEW.then("angle", 5).answers(96, "bound", 20);
        NEW.then("angle", 7).answers(33, "bound", 20);
        NEW.then("angle", 9).answers(26, "bound", 20);
    }

    /** "where d is below a a". */
    private static void boundWhereDimensionsReachTheSquare() {
        NEW.answers(28, "bound", 7);
        NEW.answers(36, "bound", 8);
        NEW.answers(45, "bound", 9);
        NEW.answers(55, "bound", 10);
    }

    /** "rounded down; THE BOUND is the lesser one". */
    private static void boundIsRoundedDownAndTheLesser() {
        NEW.answers(2, "bound", 2);
        NEW.answers(4, "bound", 3);
        NEW.answers(6, "bound", 4);
        NEW.answers(10, "bound", 5);
        NEW.answers(16, "bound", 6);
        NEW.then("angle", 5).answers(7, "bound", 6);
        NEW.then("angle", 9).answers(2, "bound", 2);
    }
}
