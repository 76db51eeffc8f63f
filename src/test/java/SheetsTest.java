/** Promises 29 to 37. */
public final class SheetsTest {
    private static final int BAD = EvenLines.BAD;
    private static final int NULL = -11, INDEX = -12, CAST = -13, STORE = -14, SIZE = -15;
    private static final int LEAST = Integer.MIN_VALUE, MOST = Integer.MAX_VALUE;

    public static void main(String[] args) {
        sheet();
        lose();
        layAndGet();
        wrongItems();
        copy();
        wrongCopies();
        load();
        write();
        count();
        digest();
        Check.end();
    }

    private static void found(EvenLines x, String call, int got, int want) {
        Check.due(call, got, want);
        Check.due(call + ": count(3)", x.count(3), -10 - want);
    }

    private static void sheet() {
        EvenLines x = new EvenLines();
        Check.due("sheet(3, 2, 100)", x.sheet(3, 2, 100), 100);
        x.lay(3, 2, 99, 5);
        int[][] wrong = {{4, 0, 1}, {-1, 0, 1}, {0, 3, 1}, {0, -1, 1}, {3, 2, 101}, {3, 2, MOST}, {LEAST, 0, 0}, {0, MOST, 0}};
        for (int[] w : wrong) {
            Check.due("sheet, wrong", x.sheet(w[0], w[1], w[2]), BAD);
        }
        Check.due("BAD is no finding", x.count(3), 0);
        Check.due("BAD goes before SIZE: the sheet", x.sheet(4, 0, -1), BAD);
        Check.due("BAD goes before SIZE: the form", x.sheet(3, 3, -1), BAD);
        found(x, "sheet(3, 0, -1)", x.sheet(3, 0, -1), SIZE);
        found(x, "sheet(3, 0, least)", x.sheet(3, 0, LEAST), SIZE);
        Check.due("it is as it was", x.get(3, 2, 99), 5);
        Check.due("a new row", x.sheet(3, 2, 100), 100);
        Check.due("has 0", x.get(3, 2, 99), 0);
        Check.due("a shorter one", x.sheet(3, 1, 0), 0);
        Check.due("has no items", x.get(3, 1, 0), LEAST);
        Check.due("INDEX", x.count(3), 2);
    }

    private static void lose() {
        EvenLines x = new EvenLines();
        found(x, "lose(0)", x.lose(0), NULL);
        x.sheet(0, 1, 7);
        Check.due("lose(0) of 7", x.lose(0), 7);
        found(x, "lose(0) again", x.lose(0), NULL);
        x.sheet(0, 1, 0);
        Check.due("lose(0) of none", x.lose(0), 0);
        Check.due("lose(4)", x.lose(4), BAD);
        Check.due("lose(-1)", x.lose(-1), BAD);
        x.sheet(0, 2, 3);
        x.lay(0, 2, 1, 9);
        x.lose(0);
        x.sheet(0, 2, 3);
        Check.due("what was lost does not come back", x.get(0, 2, 1), 0);
    }

    private static void layAndGet() {
        EvenLines x = new EvenLines();
        int[] values = {0, 1, -1, 127, 128, 255, 256, -129, 32767, 32768, 65535, 65536, -32769, MOST, LEAST, LEAST + 1};
        for (int form = 0; form < 3; form++) {
            x.sheet(form, form, 3);
            for (int v : values) {
                Check.due("lay " + v, x.lay(form, form, 2, v), 1);
                Check.due("get " + v, x.get(form, form, 2), form == 0 ? (byte) v : form == 1 ? (short) v : v);
            }
            Check.due("the item beside it", x.get(form, form, 1), 0);
        }
    }

    private static void wrongItems() {
        EvenLines x = new EvenLines();
        x.sheet(1, 1, 4);
        int[][] bad = {{4, 0}, {-1, 0}, {1, 3}, {1, -1}, {MOST, 0}, {1, LEAST}};
        for (int[] w : bad) {
            Check.due("lay, wrong", x.lay(w[0], w[1], 0, 0), BAD);
            Check.due("get, wrong", x.get(w[0], w[1], 0), LEAST);
        }
        Check.due("BAD is no finding", x.count(3), 0);
        found(x, "lay on a lost sheet", x.lay(0, 0, 0, 1), NULL);
        found(x, "lay of another form", x.lay(1, 0, 9, 1), CAST);
        found(x, "lay at 4", x.lay(1, 1, 4, 1), INDEX);
        found(x, "lay at -1", x.lay(1, 1, -1, 1), INDEX);
        found(x, "lay at most", x.lay(1, 1, MOST, 1), INDEX);
        Check.due("get of a lost sheet", x.get(0, 0, 9), LEAST);
        Check.due("NULL", x.count(3), 1);
        Check.due("get of another form", x.get(1, 2, 9), LEAST);
        Check.due("CAST", x.count(3), 3);
        Check.due("get at 4", x.get(1, 1, 4), LEAST);
        Check.due("INDEX", x.count(3), 2);
        Check.due("get at least", x.get(1, 1, LEAST), LEAST);
        Check.due("a good call keeps it", x.get(1, 1, 3), 0);
        Check.due("INDEX still", x.count(3), 2);
    }

    private static void copy() {
        EvenLines x = new EvenLines();
        x.sheet(0, 2, 6);
        x.sheet(1, 2, 4);
        for (int i = 0; i < 6; i++) {
            x.lay(0, 2, i, 10 + i);
        }
        Check.due("copy to another", x.copy(0, 3, 1, 1, 3), 1);
        int[] other = {0, 13, 14, 15};
        for (int i = 0; i < 4; i++) {
            Check.due("item " + i, x.get(1, 2, i), other[i]);
        }
        Check.due("copy up over itself", x.copy(0, 0, 0, 1, 5), 1);
        int[] up = {10, 10, 11, 12, 13, 14};
        for (int i = 0; i < 6; i++) {
            Check.due("up " + i, x.get(0, 2, i), up[i]);
        }
        Check.due("copy down over itself", x.copy(0, 2, 0, 0, 4), 1);
        int[] down = {11, 12, 13, 14, 13, 14};
        for (int i = 0; i < 6; i++) {
            Check.due("down " + i, x.get(0, 2, i), down[i]);
        }
        Check.due("none, from the end", x.copy(0, 6, 1, 4, 0), 1);
        Check.due("all", x.copy(1, 0, 0, 2, 4), 1);
        Check.due("the last one", x.get(0, 2, 5), 15);
    }

    private static void wrongCopies() {
        EvenLines x = new EvenLines();
        x.sheet(0, 0, 5);
        x.sheet(1, 1, 5);
        x.sheet(2, 0, 5);
        Check.due("copy(4 ..)", x.copy(4, 0, 0, 0, 1), BAD);
        Check.due("copy(.. -1 ..)", x.copy(0, 0, -1, 0, 1), BAD);
        Check.due("BAD goes before NULL", x.copy(3, 0, 4, 0, 1), BAD);
        found(x, "from a lost one", x.copy(3, 0, 1, 9, 1), NULL);
        found(x, "to a lost one", x.copy(0, 9, 3, 0, 1), NULL);
        found(x, "unlike forms", x.copy(0, -1, 1, 0, -1), STORE);
        found(x, "unlike forms, none", x.copy(1, 0, 0, 0, 0), STORE);
        int[][] wrong = {{-1, 0, 1}, {0, -1, 1}, {0, 0, -1}, {0, 0, 6}, {1, 0, 5}, {0, 1, 5}, {6, 0, 0}, {0, 6, 0},
            {MOST, 0, MOST}, {0, MOST, 1}, {MOST, MOST, MOST}, {LEAST, LEAST, LEAST}, {1, 1, MOST}, {0, 0, LEAST}};
        for (int[] w : wrong) {
            found(x, "copy " + w[0] + " " + w[1] + " " + w[2], x.copy(0, w[0], 2, w[1], w[2]), INDEX);
        }
    }

    private static void load() {
        EvenLines x = new EvenLines();
        x.sheet(0, 1, 6);
        int[] items = {-9, -1, 0, -1, -1, 1};
        for (int i = 0; i < 6; i++) {
            x.lay(0, 1, i, items[i]);
        }
        x.lines(5);
        Check.due("load(0, 3)", x.load(0, 3), 3);
        Check.due("at(0, 1)", x.at(0, 1), -1);
        Check.due("at(1, 0)", x.at(1, 0), -1);
        Check.due("at(0, 2)", x.at(0, 2), 1);
        Check.due("at(1, 2)", x.at(1, 2), 1);
        Check.due("at(0, 0)", x.at(0, 0), 0);
        found(x, "load(0, 4)", x.load(0, 4), INDEX);
        found(x, "load(1, 0)", x.load(1, 0), NULL);
        int[][] wrong = {{4, 0}, {-1, 0}, {0, 11}, {0, -1}, {1, 11}, {0, MOST}, {0, LEAST}};
        for (int[] w : wrong) {
            Check.due("load, wrong", x.load(w[0], w[1]), BAD);
        }
        Check.due("three are there still", x.count(0), 3);
        x.sheet(1, 0, 89);
        found(x, "load(1, 10) of 89", x.load(1, 10), INDEX);
        x.sheet(1, 0, 90);
        x.lay(1, 0, 89, 128);
        Check.due("load(1, 10) of 90", x.load(1, 10), 10);
        Check.due("at(8, 9)", x.at(8, 9), -1);
        Check.due("the others are 1", x.count(2), 1);
        x.sheet(1, 0, 0);
        Check.due("load(1, 1) of none", x.load(1, 1), 1);
        Check.due("load(1, 0) of none", x.load(1, 0), 0);
        x.sheet(1, 0, 1);
        found(x, "load(1, 2) of one", x.load(1, 2), INDEX);
    }

    private static void write() {
        EvenLines x = new EvenLines();
        x.lines(3);
        x.sign(0, 2, -1);
        found(x, "write to a lost one", x.write(0), NULL);
        x.sheet(0, 0, 8);
        found(x, "write to eight", x.write(0), INDEX);
        Check.due("write(4)", x.write(4), BAD);
        Check.due("write(-1)", x.write(-1), BAD);
        int[] due = {0, 1, -1, 1, 0, 1, -1, 1, 0, 7};
        for (int form = 0; form < 3; form++) {
            x.sheet(form, form, 10);
            x.lay(form, form, 9, 7);
            x.lay(form, form, 4, 7);
            Check.due("write to ten", x.write(form), 9);
            for (int i = 0; i < 10; i++) {
                Check.due("item " + i, x.get(form, form, i), due[i]);
            }
        }
        x.lines(0);
        x.sheet(0, 0, 0);
        Check.due("write of no lines", x.write(0), 0);
        x.lines(10);
        x.sheet(0, 0, 99);
        found(x, "write of ten lines to 99", x.write(0), INDEX);
        x.sheet(0, 0, 100);
        Check.due("write of ten lines", x.write(0), 100);
    }

    private static void count() {
        EvenLines x = new EvenLines();
        x.lines(4);
        x.angle(7);
        x.turn(2);
        x.sheet(0, 0, -1);
        int[] due = {4, 7, 3, 5};
        for (int what = 0; what < 4; what++) {
            Check.due("count " + what, x.count(what), due[what]);
        }
        int[] wrong = {-1, 4, LEAST, MOST};
        for (int what : wrong) {
            Check.due("count " + what, x.count(what), BAD);
        }
    }

    private static void digest() {
        EvenLines x = new EvenLines();
        Check.due("digest of a new object", x.digest(), 31L * (31L * (31L * (31L * 17) + 3)));
        x.lines(3);
        x.sign(0, 1, -1);
        x.angle(5);
        long h = 17;
        int[] each = {3, 5, 1, 0, -1, 1, -1, 0, 1, 1, 1, 0, 1};
        for (int e : each) {
            h = 31 * h + e;
        }
        Check.due("digest", x.digest(), h);
        x.sheet(0, 0, -1);
        Check.due("a finding is not in it", x.digest(), h);
    }
}
