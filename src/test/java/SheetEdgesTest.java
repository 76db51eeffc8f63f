/** Promises 29 to 32, and the findings: the boundary cases that the document's sentences name. */
public final class SheetEdgesTest {
    private static final int BAD = Run.BAD, NULL = Run.NULL, INDEX = Run.INDEX, CAST = Run.CAST, SIZE = Run.SIZE;
    private static final int HERE = Run.HERE, LEAST = Run.LEAST, MOST = Run.MOST;

    private static final Run NEW = Run.start();
    /** SHEET 0 is LOST, 1 shorts of no items, 2 ints of 100 items, 3 bytes of one item; the latest finding is CAST. */
    private static final Run FOUR = NEW.then("lines", 10).then("sign", 0, 1, -1).then("sheet", 1, 1, 0).then("sheet", 2, 2, 100)
        .then("write", 2).then("lay", 2, 2, 99, LEAST).then("sheet", 3, 0, 1).then("lay", 3, 0, 0, -128).then("lay", 3, 2, 0, 0);

    public static void main(String[] args) {
        sheetsAreFour();
        formsAreThree();
        itemsAreUpToAHundred();
        sizeBelowZero();
        itemsAreZeroAtFirst();
        loseTellsHowManyItems();
        layNullGoesBeforeCastAndIndex();
        layCastGoesBeforeIndex();
        itemsOfNoneOneAndAHundred();
        layKeepsTheLowestBits();
        getTellsTheLeastInt();
        theLatestFindingIsTold();
        otherRefusalsAreNoFindings();
        Check.end();
    }

    /** "SHEETS 0 .. 3". */
    private static void sheetsAreFour() {
        FOUR.range(0, 3, BAD, "sheet", HERE, 2, 5);
        FOUR.range(0, 3, BAD, "sheet", HERE, 0, 0);
        Run all = FOUR.then("sheet", 0, 2, 1).then("sheet", 1, 2, 2).then("sheet", 3, 2, 4);
        all.range(0, 3, BAD, "lose", HERE);
        all.range(0, 3, BAD, "lay", HERE, 2, 0, 1);
        all.range(0, 3, BAD, "get", HERE, 2, 0);
        all.range(0, 3, BAD, "copy", HERE, 0, 2, 0, 1);
        all.range(0, 3, BAD, "copy", 2, 0, HERE, 0, 1);
        all.range(0, 3, BAD, "load", HERE, 1);
        all.then("lines", 1).range(0, 3, BAD, "write", HERE);
        // No LOST sheet is told of where there is no such sheet.
        NEW.refuses(BAD, "lose", 4);
        NEW.refuses(BAD, "lay", -1, 0, 0, 0);
        NEW.refuses(BAD, "get", 4, 0, 0);
        NEW.refuses(BAD, "write", -1);
        NEW.refuses(BAD, "load", 4, 0);
    }

    /** "a FORM: 0 bytes, 1 shorts, 2 ints". */
    private static void formsAreThree() {
        for (int s = 0; s < 4; s++) FOUR.range(0, 2, BAD, "sheet", s, HERE, 1);
        for (int form : new int[] {LEAST, -1, 3, MOST}) {
            for (int s = 0; s < 4; s++) {
                // Neither a LOST sheet nor an item that is not there is told of before the FORM.
                FOUR.refuses(BAD, "lay", s, form, 0, 1);
                FOUR.refuses(BAD, "lay", s, form, 100, 1);
                FOUR.refuses(BAD, "get", s, form, 0);
                FOUR.refuses(BAD, "get", s, form, -1);
            }
        }
        for (int form = 0; form < 3; form++) {
            Run made = FOUR.then("sheet", 0, form, 1);
            for (int as = 0; as < 3; as++) {
                if (as == form) {
                    made.answers(1, "lay", 0, as, 0, 5).answers(5, "get", 0, as, 0);
                } else {
                    made.refuses(CAST, "lay", 0, as, 0, 5);
                    made.refuses(CAST, "get", 0, as, 0);
                }
            }
        }
    }

    /** "of 0 to 100 items", "BAD: SHEET, FORM, above 100". */
    private static void itemsAreUpToAHundred() {
        for (int form = 0; form < 3; form++) {
            for (int s = 0; s < 4; s++) {
                FOUR.answers(0, "sheet", s, form, 0).refuses(INDEX, "get", s, form, 0);
                FOUR.answers(100, "sheet", s, form, 100).answers(0, "get", s, form, 99);
                FOUR.then("sheet", s, form, 100).refuses(INDEX, "get", s, form, 100);
                for (int n : new int[] {101, 102, 256, 65536, MOST}) FOUR.refuses(BAD, "sheet", s, form, n);
            }
        }
    }

    /** "5 SIZE: below 0", told only where SHEET and FORM are right. */
    private static void sizeBelowZero() {
        for (int s = 0; s < 4; s++) {
            for (int form = 0; form < 3; form++) {
                for (int n : new int[] {-1, -100, LEAST + 1, LEAST}) FOUR.refuses(SIZE, "sheet", s, form, n);
            }
            FOUR.refuses(BAD, "sheet", s, -1, -1);
            FOUR.refuses(BAD, "sheet", s, 3, LEAST);
        }
        FOUR.refuses(BAD, "sheet", -1, 0, -1);
        FOUR.refuses(BAD, "sheet", 4, 2, LEAST);
        FOUR.refuses(BAD, "sheet", 4, 3, 101);
        FOUR.refuses(BAD, "sheet", 0, 3, 101);
    }

    /** "(0 at first)", also where there was a row before. */
    private static void itemsAreZeroAtFirst() {
        Run again = FOUR.then("sheet", 2, 2, 100);
        for (int i = 0; i < 100; i++) again.answers(0, "get", 2, 2, i);
        FOUR.then("sheet", 2, 1, 100).answers(0, "get", 2, 1, 99);
        FOUR.then("lose", 2).then("sheet", 2, 2, 100).answers(0, "get", 2, 2, 99);
        FOUR.then("sheet", 2, 2, 1).then("sheet", 2, 2, 100).answers(0, "get", 2, 2, 99);
        FOUR.then("sheet", 3, 0, 1).answers(0, "get", 3, 0, 0);
        FOUR.then("sheet", 3, 0, 1).answers(LEAST, "get", 2, 2, 99).answers(3, "count", 3);
    }

    /** "It is LOST: how many items it had. BAD; NULL." */
    private static void loseTellsHowManyItems() {
        FOUR.refuses(NULL, "lose", 0);
        FOUR.answers(0, "lose", 1).refuses(NULL, "lose", 1);
        FOUR.answers(100, "lose", 2).refuses(NULL, "lose", 2);
        FOUR.answers(1, "lose", 3).refuses(NULL, "lose", 3);
        FOUR.then("lose", 2).refuses(NULL, "get", 2, 2, 0);
        FOUR.then("lose", 2).answers(1, "lose", 3);
        FOUR.never(NULL, "lay", 0, 0, HERE, 1);
    }

    /** "BAD; NULL; CAST; INDEX." */
    private static void layNullGoesBeforeCastAndIndex() {
        for (int form = 0; form < 3; form++) {
            FOUR.never(NULL, "get", 0, form, HERE);
            FOUR.then("lose", 2).never(NULL, "lay", 2, form, HERE, 7);
        }
    }

    private static void layCastGoesBeforeIndex() {
        for (int form = 0; form < 2; form++) {
            FOUR.never(CAST, "lay", 2, form, HERE, 7);
            FOUR.never(CAST, "get", 2, form, HERE);
        }
        for (int form : new int[] {0, 2}) {
            FOUR.never(CAST, "lay", 1, form, HERE, 7);
            FOUR.never(CAST, "get", 1, form, HERE);
        }
    }

    /** "INDEX: there is no such item". */
    private static void itemsOfNoneOneAndAHundred() {
        FOUR.never(INDEX, "lay", 1, 1, HERE, 7);
        FOUR.never(INDEX, "get", 1, 1, HERE);
        FOUR.range(0, 0, INDEX, "lay", 3, 0, HERE, 7);
        FOUR.range(0, 0, INDEX, "get", 3, 0, HERE);
        FOUR.range(0, 99, INDEX, "lay", 2, 2, HERE, 7);
        FOUR.then("lay", 2, 2, 99, 8).range(0, 99, INDEX, "get", 2, 2, HERE);
        FOUR.answers(1, "lay", 2, 2, 99, 7).answers(7, "get", 2, 2, 99).answers(0, "get", 2, 2, 0);
        // A shorter row of the same SHEET has not the items of the longer one.
        FOUR.then("sheet", 2, 2, 99).refuses(INDEX, "get", 2, 2, 99);
        FOUR.then("sheet", 2, 2, 99).refuses(INDEX, "lay", 2, 2, 99, 1);
    }

    /** "becomes v (the lowest bits that it has)". */
    private static void layKeepsTheLowestBits() {
        int[][] kept = {
            {127, 127, 127, 127}, {128, -128, 128, 128}, {-128, -128, -128, -128}, {-129, 127, -129, -129},
            {255, -1, 255, 255}, {256, 0, 256, 256}, {32767, -1, 32767, 32767}, {32768, 0, -32768, 32768},
            {-32768, 0, -32768, -32768}, {-32769, -1, 32767, -32769}, {65535, -1, -1, 65535}, {65536, 0, 0, 65536},
            {MOST, -1, -1, MOST}, {LEAST, 0, 0, LEAST}, {0, 0, 0, 0}, {-1, -1, -1, -1}};
        for (int form = 0; form < 3; form++) {
            for (int[] k : kept) {
                for (int i : new int[] {0, 99}) {
                    FOUR.then("sheet", 0, form, 100).answers(1, "lay", 0, form, i, k[0]).answers(k[1 + form], "get", 0, form, i);
                }
            }
        }
    }

    /** "BAD: the least int; so are NULL, CAST, INDEX (count() 3 tells)": an item may be the least int, too. */
    private static void getTellsTheLeastInt() {
        FOUR.answers(LEAST, "get", 2, 2, 99).answers(-10 - CAST, "count", 3);
        FOUR.answers(LEAST, "get", 4, 2, 99).answers(-10 - CAST, "count", 3);
        FOUR.answers(LEAST, "get", 2, 3, 99).answers(-10 - CAST, "count", 3);
        FOUR.answers(LEAST, "get", 0, 2, 99).answers(-10 - NULL, "count", 3);
        FOUR.answers(LEAST, "get", 2, 2, 100).answers(-10 - INDEX, "count", 3);
        FOUR.then("lose", 0).answers(LEAST, "get", 2, 1, 100).answers(-10 - CAST, "count", 3);
        FOUR.answers(-128, "get", 3, 0, 0);
    }

    /** "(answers -10 less the number ..)", "the number of the latest FINDING (0 before any)". */
    private static void theLatestFindingIsTold() {
        NEW.answers(0, "count", 3)
            .answers(-11, "lose", 0).answers(1, "count", 3)
            .answers(-15, "sheet", 0, 0, -1).answers(5, "count", 3)
            .then("sheet", 0, 0, 2).then("sheet", 1, 1, 2).answers(5, "count", 3)
            .answers(-14, "copy", 0, 0, 1, 0, 0).answers(4, "count", 3)
            .answers(-13, "lay", 0, 1, 0, 0).answers(3, "count", 3)
            .answers(-12, "lay", 0, 0, 2, 0).answers(2, "count", 3)
            .answers(1, "lay", 0, 0, 1, 0).answers(2, "count", 3)
            .answers(-11, "lose", 3).answers(1, "count", 3)
            .answers(2, "lose", 0).answers(1, "count", 3);
    }

    /** BAD, NOT and FULL leave the latest FINDING, as good calls do. */
    private static void otherRefusalsAreNoFindings() {
        FOUR.refuses(BAD, "lines", 11);
        FOUR.refuses(BAD, "lose", 4);
        FOUR.refuses(Run.NOT, "name");
        FOUR.refuses(Run.FULL, "put", 0);
        FOUR.then("lines", 1).then("name").then("put", 0).then("sheet", 0, 0, 0).answers(3, "count", 3);
    }
}
