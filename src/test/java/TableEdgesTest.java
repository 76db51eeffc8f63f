/** Promises 1 to 9: the boundary cases that the document's sentences name. */
public final class TableEdgesTest {
    private static final int BAD = Run.BAD, HERE = Run.HERE, LEAST = Run.LEAST, MOST = Run.MOST;

    private static final Run NEW = Run.start();
    private static final Run ONE = NEW.then("lines", 1);
    private static final Run TWO = NEW.then("lines", 2).then("sign", 0, 1, -1);
    private static final Run TEN = NEW.then("angle", 9).then("lines", 10).then("sign", 8, 9, -1).then("sign", 0, 9, -1)
        .then("sheet", 3, 1, 100).then("write", 3).then("sheet", 2, 2, 0).then("sheet", 0, 0, -1);

    public static void main(String[] args) {
        noLinesAtFirst();
        allSheetsAreLostAtFirst();
        objectsShareNothing();
        linesAreUpToTen();
        linesHaveAllSignsOne();
        signsAreOfTwoLines();
        signsAreOneOrMinusOne();
        atHasZeroOnItsDiagonal();
        turnedLines();
        changedLines();
        oddTriples();
        togetherIsOfTwoLines();
        regularOfFewLines();
        Check.end();
    }

    /** "No LINES; ANGLE 3", "0 before any". */
    private static void noLinesAtFirst() {
        NEW.answers(0, "count", 0);
        NEW.answers(3, "count", 1);
        NEW.answers(0, "count", 2);
        NEW.answers(0, "count", 3);
        NEW.answers(3, "angle", 3);
        NEW.answers(0, "lines", 0);
        NEW.answers(0, "put", 0);
        NEW.answers(31L * 31 * 31 * 31 * 17 + 31 * 31 * 3, "digest");
    }

    /** "all SHEETS are LOST". */
    private static void allSheetsAreLostAtFirst() {
        for (int s = 0; s < 4; s++) {
            NEW.refuses(Run.NULL, "lose", s);
            NEW.refuses(Run.NULL, "write", s);
            NEW.refuses(Run.NULL, "load", s, 0);
            for (int form = 0; form < 3; form++) NEW.refuses(Run.NULL, "get", s, form, 0);
        }
    }

    private static void objectsShareNothing() {
        EvenLines x = new EvenLines();
        EvenLines y = new EvenLines();
        x.angle(9);
        x.lines(10);
        x.turn(0);
        x.sheet(0, 2, 100);
        x.sheet(0, 2, -1);
        Check.due("another object's lines", y.count(0), 0);
        Check.due("another object's angle", y.count(1), 3);
        Check.due("another object's finding", y.count(3), 0);
        Check.due("another object's sheet", y.lose(0), Run.NULL);
    }

    /** "N LINES (0 to 10) .. how many there were". */
    private static void linesAreUpToTen() {
        NEW.range(0, 10, BAD, "lines", HERE);
        TEN.range(0, 10, BAD, "lines", HERE);
        NEW.answers(0, "lines", 10).answers(10, "lines", 10).answers(10, "lines", 0).answers(0, "lines", 0).answers(0, "lines", 1)
            .answers(1, "lines", 9);
        NEW.then("lines", 10).refuses(BAD, "at", 10, 0);
        NEW.then("lines", 10).answers(1, "at", 9, 0);
        TEN.then("lines", 0).refuses(BAD, "at", 0, 0);
    }

    /** "all SIGNS 1", also where there were others. */
    private static void linesHaveAllSignsOne() {
        TEN.answers(2, "count", 2);
        TEN.then("lines", 10).answers(0, "count", 2);
        TEN.then("lines", 2).then("lines", 10).answers(1, "at", 8, 9);
        TEN.then("lines", 9).then("put", 0).answers(1, "at", 8, 9).answers(1, "at", 9, 8).answers(0, "count", 2);
        TEN.then("lines", 0).then("load", 3, 1).then("put", 0).answers(1, "at", 1, 0).answers(0, "count", 2);
        TEN.then("lines", 10).answers(9, "count", 1);
        TEN.then("lines", 10).answers(-1, "get", 3, 1, 89);
        TEN.then("lines", 10).answers(5, "count", 3);
    }

    /** "The SIGN of two LINES .. BAD: also of one with itself." */
    private static void signsAreOfTwoLines() {
        TEN.range(0, 8, BAD, "sign", HERE, 9, -1);
        TEN.range(1, 9, BAD, "sign", HERE, 0, -1);
        TEN.range(0, 8, BAD, "sign", 9, HERE, 1);
        TEN.range(1, 9, BAD, "sign", 0, HERE, 1);
        for (int i = 0; i < 10; i++) TEN.refuses(BAD, "sign", i, i, -1);
        TWO.range(1, 1, BAD, "sign", 0, HERE, 1);
        TWO.range(0, 0, BAD, "sign", HERE, 1, 1);
        ONE.never(BAD, "sign", 0, HERE, 1);
        ONE.never(BAD, "sign", HERE, 0, 1);
        NEW.never(BAD, "sign", 0, HERE, 1);
        NEW.never(BAD, "sign", HERE, 1, 1);
    }

    /** "(1, -1): what it was". */
    private static void signsAreOneOrMinusOne() {
        TEN.answers(-1, "sign", 9, 8, -1).answers(-1, "sign", 8, 9, 1).answers(1, "sign", 9, 8, 1).answers(1, "at", 8, 9);
        TEN.answers(1, "sign", 0, 1, -1).answers(-1, "at", 1, 0);
        for (int v : new int[] {LEAST, -3, -2, 0, 2, 3, MOST}) TEN.refuses(BAD, "sign", 0, 1, v);
    }

    /** "What THE TABLE has at i, j", "THE TABLE has 0 at i, i". */
    private static void atHasZeroOnItsDiagonal() {
        TEN.range(0, 9, BAD, "at", HERE, 5);
        TEN.range(0, 9, BAD, "at", 5, HERE);
        for (int i = 0; i < 10; i++) TEN.answers(0, "at", i, i);
        TEN.refuses(BAD, "at", 10, 10);
        TEN.refuses(BAD, "at", -1, -1);
        ONE.range(0, 0, BAD, "at", HERE, 0);
        ONE.range(0, 0, BAD, "at", 0, HERE);
        ONE.answers(0, "at", 0, 0);
        NEW.never(BAD, "at", HERE, HERE);
    }

    /** "A LINE is TURNED about: how many of its SIGNS are -1 then." */
    private static void turnedLines() {
        TEN.range(0, 9, BAD, "turn", HERE);
        TEN.answers(7, "turn", 9).answers(1, "at", 8, 9).answers(-1, "at", 1, 9).answers(0, "at", 9, 9).answers(2, "turn", 9);
        NEW.then("lines", 10).answers(9, "turn", 0).answers(0, "turn", 0);
        TWO.answers(0, "turn", 1).answers(1, "turn", 0);
        ONE.range(0, 0, BAD, "turn", HERE);
        ONE.answers(0, "turn", 0).answers(0, "at", 0, 0);
        NEW.never(BAD, "turn", HERE);
    }

    /** "LINES i and j change their numbers: 1." */
    private static void changedLines() {
        TEN.range(0, 9, BAD, "change", HERE, 5);
        TEN.range(0, 9, BAD, "change", 5, HERE);
        TEN.answers(1, "change", 0, 9).answers(-1, "at", 0, 9).answers(-1, "at", 8, 0).answers(1, "at", 8, 9);
        Run changed = TEN.then("change", 0, 9);
        for (int i = 0; i < 10; i++) {
            for (int j = 0; j < 10; j++) {
                boolean minus = i == 0 && j >= 8 || j == 0 && i >= 8;
                changed.answers(i == j ? 0 : minus ? -1 : 1, "at", i, j);
            }
        }
        TEN.answers(1, "change", 9, 9).answers(-1, "at", 8, 9).answers(2, "count", 2);
        TEN.refuses(BAD, "change", 10, 10);
        TEN.refuses(BAD, "change", -1, -1);
        ONE.range(0, 0, BAD, "change", HERE, HERE);
        NEW.never(BAD, "change", HERE, HERE);
    }

    /** "How many TRIPLES are ODD": of fewer than three LINES there is none. */
    private static void oddTriples() {
        NEW.answers(0, "odd");
        ONE.answers(0, "odd");
        TWO.answers(0, "odd");
        Run three = NEW.then("lines", 3).answers(0, "odd").then("sign", 0, 1, -1);
        three.answers(1, "odd");
        three.then("sign", 1, 2, -1).answers(0, "odd");
        three.then("sign", 1, 2, -1).then("sign", 0, 2, -1).answers(1, "odd");
        NEW.then("lines", 10).answers(0, "odd");
        NEW.then("lines", 10).then("sign", 0, 9, -1).answers(8, "odd");
    }

    /** "In how many ODD TRIPLES two LINES are together. BAD: also one with itself." */
    private static void togetherIsOfTwoLines() {
        TEN.range(0, 8, BAD, "together", HERE, 9);
        TEN.range(1, 9, BAD, "together", HERE, 0);
        TEN.range(0, 8, BAD, "together", 9, HERE);
        TEN.range(1, 9, BAD, "together", 0, HERE);
        for (int i = 0; i < 10; i++) TEN.refuses(BAD, "together", i, i);
        TEN.answers(7, "together", 8, 9).answers(7, "together", 9, 0).answers(0, "together", 0, 8).answers(2, "together", 1, 9);
        TWO.answers(0, "together", 0, 1);
        ONE.never(BAD, "together", 0, HERE);
        NEW.never(BAD, "together", HERE, 1);
    }

    /** "(fewer than two LINES: 1)". */
    private static void regularOfFewLines() {
        NEW.answers(1, "regular");
        ONE.answers(1, "regular");
        TWO.answers(1, "regular");
        NEW.then("lines", 3).then("sign", 0, 1, -1).answers(1, "regular");
        NEW.then("lines", 4).then("sign", 0, 1, -1).answers(0, "regular");
        NEW.then("lines", 4).then("sign", 2, 3, -1).answers(0, "regular");
        NEW.then("lines", 4).then("sign", 0, 1, -1).then("sign", 2, 3, -1).answers(1, "regular");
        NEW.then("lines", 10).answers(1, "regular");
        NEW.then("lines", 10).then("turn", 9).answers(1, "regular");
        NEW.then("lines", 10).then("sign", 8, 9, -1).answers(0, "regular");
    }
}
