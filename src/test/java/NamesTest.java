/** Promises 20 to 23. */
public final class NamesTest {
    private static final int BAD = EvenLines.BAD, NOT = EvenLines.NOT;

    public static void main(String[] args) {
        few();
        named();
        pentagon();
        tooMany();
        allTablesTo(5);
        someTablesOf(6, 997);
        someTablesOf(7, 65537);
        likeTablesHaveOneName();
        kinds();
        Check.end();
    }

    private static EvenLines made(int n) {
        EvenLines x = new EvenLines();
        x.lines(n);
        return x;
    }

    private static void few() {
        int[] group = {1, 1, 2, 6, 24, 120, 720, 5040};
        for (int n = 0; n <= 7; n++) {
            EvenLines x = made(n);
            Check.due("name of " + n + " with all signs 1", x.name(), 0);
            Check.due("group of them", x.group(), group[n]);
            Check.due("plain of them", x.plain(), 0);
            if (n > 1) {
                x.turn(n - 1);
                Check.due("one turned about: name", x.name(), 0);
                Check.due("one turned about: group", x.group(), group[n]);
                Check.due("one turned about: plain", x.plain(), n);
                Check.due("and all signs are 1 then", x.count(2), 0);
            }
        }
    }

    private static void named() {
        EvenLines x = made(5);
        x.sign(0, 1, -1);
        Check.due("the lowest bit is that of 1, 2", x.name(), 1);
        Check.due("plain", x.plain(), 3);
        Check.due("at(1, 2)", x.at(1, 2), -1);
        Check.due("at(0, 1)", x.at(0, 1), 1);
        Check.due("only that", x.count(2), 1);
        Check.due("plain again", x.plain(), 0);
    }

    private static void pentagon() {
        EvenLines x = made(5);
        for (int i = 0; i < 5; i++) {
            x.sign(i, (i + 1) % 5, -1);
        }
        Check.due("the pentagon's name", x.name(), 13);
        Check.due("the pentagon's group", x.group(), 10);
        x.put(0);
        Check.due("with a sixth line: the icosahedron's group", x.group(), 60);
    }

    private static void tooMany() {
        for (int n = 8; n <= 10; n++) {
            EvenLines x = made(n);
            x.sign(0, 1, -1);
            Check.due("name of " + n, x.name(), NOT);
            Check.due("plain of " + n, x.plain(), NOT);
            Check.due("group of " + n, x.group(), NOT);
            Check.due("nothing changed", x.at(0, 1), -1);
        }
    }

    private static void allTablesTo(int most) {
        for (int n = 0; n <= most; n++) {
            for (int code = 0; code < 1 << n * (n - 1) / 2; code++) {
                asTheModel(n, code);
            }
        }
    }

    private static void someTablesOf(int n, int apart) {
        for (int code = 0; code < 1 << n * (n - 1) / 2; code += apart) {
            asTheModel(n, code);
        }
    }

    private static void asTheModel(int n, int code) {
        EvenLines x = made(n);
        Model m = new Model();
        m.lines(n);
        for (int i = 0, bit = 0; i < n; i++) {
            for (int j = 0; j < i; j++, bit++) {
                int v = (code >> bit & 1) == 0 ? 1 : -1;
                x.sign(i, j, v);
                m.sign(i, j, v);
            }
        }
        String of = " of " + n + " lines, table " + code;
        Check.due("name" + of, x.name(), m.name());
        Check.due("group" + of, x.group(), m.group());
        Check.due("plain" + of, x.plain(), m.plain());
        Check.due("digest" + of, x.digest(), m.digest());
    }

    private static void likeTablesHaveOneName() {
        EvenLines x = made(7);
        int[][] minus = {{0, 3}, {1, 2}, {2, 5}, {4, 6}, {5, 6}, {1, 6}};
        for (int[] pair : minus) {
            x.sign(pair[0], pair[1], -1);
        }
        int name = x.name();
        int group = x.group();
        for (int k = 0; k < 60; k++) {
            x.turn(k * 3 % 7);
            x.change(k % 7, k * k % 7);
            Check.due("the name of a like table", x.name(), name);
            Check.due("the group of a like table", x.group(), group);
        }
        x.plain();
        Check.due("the name of the plain table", x.name(), name);
    }

    private static void kinds() {
        EvenLines x = made(6);
        x.sign(2, 4, -1);
        long before = x.digest();
        Model m = new Model();
        for (int n = 1; n <= 5; n++) {
            Check.due("kinds " + n, x.kinds(n), m.kinds(n));
        }
        int[] wrong = {0, -1, 6, 7, 11, Integer.MIN_VALUE, Integer.MAX_VALUE};
        for (int n : wrong) {
            Check.due("kinds " + n, x.kinds(n), BAD);
        }
        Check.due("nothing changed", x.digest(), before);
    }
}
