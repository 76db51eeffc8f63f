/** Promises 20 to 23: the boundary cases that the document's sentences name. */
public final class NameEdgesTest {
    private static final int BAD = Run.BAD, NOT = Run.NOT, HERE = Run.HERE;

    private static final Run NEW = Run.start();

    public static void main(String[] args) {
        namesAreOfSevenLinesAtMost();
        namesOfFewLines();
        nameOfSevenLines();
        plainOfFewLines();
        plainCountsLines();
        plainOfThePlainTable();
        groupOfFewLines();
        kindsAreOfOneToFiveLines();
        kindsDoNotHangOnTheLines();
        Check.end();
    }

    private static Run lines(int n) {
        return NEW.then("lines", n);
    }

    /** "NOT: above 7 LINES." */
    private static void namesAreOfSevenLinesAtMost() {
        for (int n = 0; n <= 10; n++) {
            Run run = lines(n).then("sheet", 0, 2, 100).then("write", 0).then("sheet", 0, 0, -1);
            if (n > 1) run = run.then("turn", 1);
            for (String call : new String[] {"name", "plain", "group"}) {
                if (n <= 7) run.takes(call);
                else run.refuses(NOT, call);
            }
        }
        lines(10).then("lines", 7).takes("name");
        lines(7).then("put", 0).refuses(NOT, "name");
    }

    /** Fewer than three LINES have no bits in their NAME. */
    private static void namesOfFewLines() {
        NEW.answers(0, "name");
        lines(1).answers(0, "name");
        lines(2).answers(0, "name");
        lines(2).then("sign", 0, 1, -1).answers(0, "name");
        lines(3).answers(0, "name");
        lines(3).then("sign", 0, 1, -1).answers(1, "name");
        lines(3).then("sign", 1, 2, -1).answers(1, "name");
    }

    /** "the least number whose bits (the lowest first) tell, for j from 2 on and i from 1 to j - 1". */
    private static void nameOfSevenLines() {
        lines(7).answers(0, "name");
        lines(7).then("sign", 5, 6, -1).answers(1, "name");
        Run minus = lines(7);
        for (int i = 0; i < 7; i++) for (int j = 0; j < i; j++) minus = minus.then("sign", i, j, -1);
        // All triples are odd, so every numbering tells all 15 bits.
        minus.answers((1 << 15) - 1, "name");
        minus.answers(7, "plain").answers(15, "count", 2).answers(1, "at", 0, 6).answers(-1, "at", 5, 6);
        minus.answers(5040, "group");
    }

    /** "THE TABLE becomes that of THE NAME: how many LINES have other SIGNS than they had." */
    private static void plainOfFewLines() {
        NEW.answers(0, "plain").answers(0, "count", 0);
        lines(1).answers(0, "plain").answers(1, "count", 0);
        lines(2).answers(0, "plain");
        lines(2).then("sign", 0, 1, -1).answers(2, "plain").answers(0, "count", 2);
    }

    private static void plainCountsLines() {
        lines(3).then("sign", 0, 1, -1).answers(3, "plain").answers(-1, "at", 1, 2).answers(1, "count", 2);
        lines(7).then("turn", 3).answers(7, "plain").answers(0, "count", 2);
        lines(7).then("sign", 5, 6, -1).answers(4, "plain").answers(-1, "at", 1, 2).answers(1, "at", 5, 6).answers(7, "count", 0);
    }

    private static void plainOfThePlainTable() {
        lines(7).answers(0, "plain");
        lines(7).then("sign", 1, 2, -1).answers(0, "plain").answers(-1, "at", 1, 2);
        lines(7).then("turn", 6).then("sign", 0, 3, -1).then("plain").answers(0, "plain");
    }

    /** "how many numberings, with TURNING about, leave THE TABLE as it is": of no LINES there is one numbering. */
    private static void groupOfFewLines() {
        NEW.answers(1, "group");
        lines(1).answers(1, "group");
        lines(2).answers(2, "group");
        lines(2).then("sign", 0, 1, -1).answers(2, "group");
        lines(3).then("sign", 0, 1, -1).answers(6, "group");
        lines(7).answers(5040, "group").answers(5040, "group");
        lines(7).then("turn", 0).answers(5040, "group");
        lines(7).then("sign", 0, 1, -1).answers(240, "group");
    }

    /** "KINDS of N LINES (1 to 5)". */
    private static void kindsAreOfOneToFiveLines() {
        NEW.range(1, 5, BAD, "kinds", HERE);
        lines(10).then("turn", 4).range(1, 5, BAD, "kinds", HERE);
        NEW.answers(1, "kinds", 1).answers(1, "kinds", 2).answers(2, "kinds", 3).answers(3, "kinds", 4).answers(7, "kinds", 5);
    }

    private static void kindsDoNotHangOnTheLines() {
        for (int n = 0; n <= 10; n++) {
            Run run = lines(n);
            if (n > 1) run = run.then("turn", 1);
            long before = run.answerOf("digest");
            run.answers(7, "kinds", 5).answers(1, "kinds", 1).answers(before, "digest");
        }
    }
}
