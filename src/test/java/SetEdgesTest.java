/** Promises 24 to 28: the boundary cases that the document's sentences name. */
public final class SetEdgesTest {
    private static final int BAD = Run.BAD, NONE = Run.NONE, HERE = Run.HERE, LEAST = Run.LEAST, MOST = Run.MOST;

    private static final Run NEW = Run.start();
    private static final Run TEN = NEW.then("angle", 9).then("lines", 10).then("turn", 9).then("sheet", 1, 1, 100)
        .then("write", 1).then("sheet", 1, 1, -1);

    public static void main(String[] args) {
        roundsAreTwoToThirtyOne();
        setsAreBitsOfTheRound();
        stepsAreBelowTheRound();
        hitsGoRound();
        evenOfNoneOneAndAll();
        evenOfTheSmallestRound();
        welchOfKs();
        welchIsRoundedDown();
        multipliersOfNoneOneAndAll();
        multipliersMoveByNoStepToo();
        foundRoundsAreTwoToFifteen();
        foundSetsHaveOneToAllNumbers();
        foundSetsAreTheLeastWithZero();
        Check.end();
    }

    /** "(v 2 to 31)". */
    private static void roundsAreTwoToThirtyOne() {
        for (Run run : new Run[] {NEW, TEN}) {
            run.range(2, 31, BAD, "hits", HERE, 1, 1);
            run.range(2, 31, BAD, "even", HERE, 1);
            run.range(2, 31, BAD, "multipliers", HERE, 1);
            run.range(2, 31, BAD, "welch", HERE, 1);
        }
        for (int v : new int[] {LEAST, -31, -1, 0, 1, 32, 33, 63, 64, 66, 95, MOST}) {
            for (int bits : new int[] {0, 1, 3, MOST}) {
                NEW.refuses(BAD, "hits", v, bits, 1);
                NEW.refuses(BAD, "even", v, bits);
                NEW.refuses(BAD, "multipliers", v, bits);
            }
            NEW.refuses(BAD, "welch", v, 1);
            NEW.refuses(BAD, "welch", v, v);
        }
    }

    /** "BAD: v, bits that are none": of all rounds the whole set is taken, a bit above it is not. */
    private static void setsAreBitsOfTheRound() {
        for (int v = 2; v <= 31; v++) {
            int all = MOST >>> 31 - v;
            NEW.range(0, all, BAD, "hits", v, HERE, 1);
            NEW.range(0, all, BAD, "even", v, HERE);
            NEW.range(0, all, BAD, "multipliers", v, HERE);
            NEW.refuses(BAD, "hits", v, LEAST + 1, 1);
            NEW.refuses(BAD, "even", v, LEAST + 1);
            NEW.refuses(BAD, "multipliers", v, LEAST + 1);
        }
    }

    /** "a step s (1 .. v - 1)". */
    private static void stepsAreBelowTheRound() {
        for (int v = 2; v <= 31; v++) NEW.range(1, v - 1, BAD, "hits", v, 3, HERE);
        TEN.refuses(BAD, "hits", 1, 2, 3);
    }

    /** "x and s (modulo v)". */
    private static void hitsGoRound() {
        NEW.answers(2, "hits", 2, 3, 1);
        NEW.answers(0, "hits", 2, 2, 1);
        NEW.answers(0, "hits", 2, 0, 1);
        int ends = 1 << 30 | 1;
        NEW.answers(1, "hits", 31, ends, 1);
        NEW.answers(1, "hits", 31, ends, 30);
        NEW.answers(0, "hits", 31, ends, 2);
        NEW.answers(0, "hits", 31, ends, 29);
        NEW.answers(31, "hits", 31, MOST, 1);
        NEW.answers(0, "hits", 31, 0, 30);
        NEW.answers(2, "hits", 30, 1 << 15 | 1, 15);
        NEW.answers(0, "hits", 30, 1 << 15 | 1, 14);
    }

    /** "The set is EVEN, if all steps have as many HITS." */
    private static void evenOfNoneOneAndAll() {
        for (int v = 2; v <= 31; v++) {
            int all = MOST >>> 31 - v;
            NEW.answers(0, "even", v, 0);
            NEW.answers(0, "even", v, 1);
            NEW.answers(0, "even", v, 1 << v - 1);
            NEW.answers(v, "even", v, all);
            NEW.answers(v - 2, "even", v, all - 1);
            if (v > 3) NEW.answers(NONE, "even", v, 3);
            if (v > 4) NEW.answers(NONE, "even", v, 1 << v - 1 | 1);
        }
        // Only the step of half a round differs from the others.
        NEW.answers(NONE, "even", 4, 5);
        NEW.answers(NONE, "even", 4, 3);
    }

    private static void evenOfTheSmallestRound() {
        for (int bits = 0; bits < 3; bits++) NEW.answers(0, "even", 2, bits);
        NEW.answers(2, "even", 2, 3);
        NEW.answers(1, "even", 3, 3);
    }

    /** "v 2 to 31, k 1 to v". */
    private static void welchOfKs() {
        for (int v = 2; v <= 31; v++) {
            NEW.range(1, v, BAD, "welch", v, HERE);
            NEW.answers(1000000, "welch", v, 1);
            NEW.answers(0, "welch", v, v);
        }
        TEN.refuses(BAD, "welch", 31, 32);
        TEN.refuses(BAD, "welch", LEAST, LEAST);
        TEN.refuses(BAD, "welch", MOST, MOST);
    }

    /** "in millionths, rounded down". */
    private static void welchIsRoundedDown() {
        NEW.answers(250000, "welch", 3, 2);
        NEW.answers(111111, "welch", 4, 3);
        NEW.answers(1111, "welch", 31, 30);
        NEW.answers(483333, "welch", 31, 2);
        NEW.answers(1189, "welch", 30, 29);
    }

    /** "t from 1 to v - 1 without a common divisor (above 1) with v": those of no numbers, of one and of all are all. */
    private static void multipliersOfNoneOneAndAll() {
        int[] free = {0, 0, 1, 2, 2, 4, 2, 6, 4, 6, 4, 10, 4, 12, 6, 8, 8, 16, 6, 18, 8, 12, 10, 22, 8, 20, 12, 18, 12, 28, 8, 30};
        for (int v = 2; v <= 31; v++) {
            int all = MOST >>> 31 - v;
            NEW.answers(free[v], "multipliers", v, 0);
            NEW.answers(free[v], "multipliers", v, 1);
            NEW.answers(free[v], "multipliers", v, 1 << v - 1);
            NEW.answers(free[v], "multipliers", v, all);
            NEW.answers(free[v], "multipliers", v, all - 1);
        }
    }

    /** "the set moved round by some step (0, too)": by 1 the set stays, by -1 two numbers beside each other move. */
    private static void multipliersMoveByNoStepToo() {
        for (int v = 5; v <= 31; v++) NEW.answers(2, "multipliers", v, 3);
        NEW.answers(1, "multipliers", 9, 1 | 2 | 8);
        NEW.answers(1, "multipliers", 2, 1);
        NEW.answers(2, "multipliers", 3, 3);
        NEW.answers(3, "multipliers", 7, 1 << 1 | 1 << 2 | 1 << 4);
    }

    /** "v 2 to 15". */
    private static void foundRoundsAreTwoToFifteen() {
        NEW.range(2, 15, BAD, "find", HERE, 1);
        TEN.range(2, 15, BAD, "find", HERE, 1);
        TEN.refuses(BAD, "find", 16, 16);
        TEN.refuses(BAD, "find", 31, 31);
        TEN.refuses(BAD, "find", 1, 1);
        TEN.refuses(BAD, "find", 0, 0);
        TEN.refuses(BAD, "find", MOST, MOST);
    }

    /** "of k numbers (1 to v ..)". */
    private static void foundSetsHaveOneToAllNumbers() {
        for (int v = 2; v <= 15; v++) {
            NEW.range(1, v, BAD, "find", v, HERE);
            NEW.answers(1, "find", v, 1);
            NEW.answers((1 << v) - 1, "find", v, v);
            NEW.answers((1 << v - 1) - 1, "find", v, v - 1);
            if (v > 3) NEW.answers(NONE, "find", v, 2);
        }
    }

    /** "The least EVEN set as bits .. with 0 in it; NONE." */
    private static void foundSetsAreTheLeastWithZero() {
        NEW.answers(11, "find", 7, 3);
        NEW.answers(1335, "find", 15, 7);
        NEW.answers(NONE, "find", 8, 3);
        NEW.answers(NONE, "find", 15, 6);
        NEW.answers(3, "find", 3, 2);
    }
}
