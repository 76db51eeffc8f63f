import java.util.Set;
import java.util.TreeSet;

/** The terms 4 and 5 and the refusals, sentence by sentence: what is due is reckoned here from the sentence alone. */
public final class SetTermsTest {
    private static final int NONE = EvenLines.NONE, BAD = EvenLines.BAD, NOT = EvenLines.NOT, FULL = EvenLines.FULL;
    private static final int NULL = -11, INDEX = -12, CAST = -13, STORE = -14, SIZE = -15;
    private static final int LEAST = Integer.MIN_VALUE;

    private static final Run NEW = Run.start();
    /** SHEET 0 is LOST, 1 bytes of two items, 2 ints of three; the latest finding is SIZE. */
    private static final Run SHEETS = NEW.then("angle", 5).then("lines", 2).then("turn", 1).then("sheet", 1, 0, 2).then("lay", 1, 0, 1, 7)
        .then("sheet", 2, 2, 3).then("lay", 2, 2, 2, -8).then("sheet", 3, 0, -1);

    /** Something that is looked at for every set of a round. */
    private interface OfSet {
        void look(int v, int bits, Set<Integer> set);
    }

    public static void main(String[] args) throws Exception {
        Words terms = new Words();
        terms.of("SETS of numbers 0 .. v - 1 (v 2 to 31), as bits, round by v.", SetTermsTest::setsAreBitsOfARound);
        terms.of("HITS of a step s (1 .. v - 1): how many x of the set have x and s (modulo v) in it.", SetTermsTest::hitsAreInTheSet);
        terms.of("The set is EVEN, if all steps have as many HITS.", SetTermsTest::evenSetsHaveAsManyHits);
        terms.of("THE WELCH of v and k (the least that the greatest squared likeness of two of v vectors in k dimensions can be; "
            + "just EVEN sets of k numbers give frames that have it everywhere): (v less k) by (k (v less 1)), in millionths, "
            + "rounded down.", SetTermsTest::evenSetsGiveFramesOfTheWelch);
        terms.of("MULTIPLIERS of a set: t from 1 to v - 1 without a common divisor (above 1) with v, for which all t x (modulo v), "
            + "x of the set, are the set moved round by some step (0, too).", SetTermsTest::multipliersMoveTheSetRound);
        terms.of("SHEETS 0 .. 3 are LOST (at first) or a row of a FORM: 0 bytes, 1 shorts, 2 ints, of 0 to 100 items (0 at first).",
            SetTermsTest::sheetsAreRowsOfAForm);
        terms.of("FINDINGS (answers -10 less the number; they change nothing but count() 3):", SetTermsTest::findingsChangeTheCountAlone);
        terms.of("1 NULL: the SHEET is LOST;", SetTermsTest::nullIsALostSheet);
        terms.of("2 INDEX: there is no such item;", SetTermsTest::indexIsNoItem);
        terms.of("3 CAST: it has another FORM;", SetTermsTest::castIsAnotherForm);
        terms.of("4 STORE: unlike FORMS;", SetTermsTest::storeIsUnlikeForms);
        terms.of("5 SIZE: below 0.", SetTermsTest::sizeIsBelowZero);
        terms.of("Refusals, the first that fits: BAD -2 (a number not as told, no such thing), NOT -3, FULL -4 (as told), FINDINGS.",
            SetTermsTest::theFirstRefusalThatFits);
        terms.of("They change nothing (FINDINGS but count() 3).", SetTermsTest::refusalsChangeNothing);
        terms.of("Where the answer is a long, a refusal -x is the least long and x more.", SetTermsTest::longRefusals);
        terms.areAll("======== 4 SETS", "Ahead of the calls");
        Check.end();
    }

    /** All sets of the rounds of up to ten numbers, and some of the others. */
    private static void eachSet(OfSet test) {
        for (int v = 2; v <= 31; v++) {
            int many = v <= 10 ? 1 << v : 200;
            for (int k = 0; k < many; k++) {
                int bits = v <= 10 ? k : k * 0x9E3779B9 >>> 32 - v;
                Set<Integer> set = new TreeSet<>();
                for (int x = 0; x < v; x++) if ((bits >> x & 1) == 1) set.add(x);
                test.look(v, bits, set);
            }
        }
    }

    private static int hits(int v, Set<Integer> set, int step) {
        int hits = 0;
        for (int x : set) if (set.contains((x + step) % v)) hits++;
        return hits;
    }

    private static Set<Integer> moved(int v, Set<Integer> set, int times, int step) {
        Set<Integer> made = new TreeSet<>();
        for (int x : set) made.add((times * x + step) % v);
        return made;
    }

    private static void due(String what, int v, int bits, long got, long want) {
        if (got != want) Check.due(what + " of the bits " + bits + " round by " + v, got, want);
    }

    private static void setsAreBitsOfARound() {
        for (int v : new int[] {LEAST, -1, 0, 1, 32, 33, 64}) {
            Check.due("hits of the round " + v, new EvenLines().hits(v, 1, 1), BAD);
            Check.due("even of the round " + v, new EvenLines().even(v, 1), BAD);
            Check.due("multipliers of the round " + v, new EvenLines().multipliers(v, 1), BAD);
        }
        for (int v = 2; v <= 31; v++) {
            int all = Integer.MAX_VALUE >>> 31 - v;
            due("even", v, all, new EvenLines().even(v, all), v);
            due("even, one number more", v, all + 1, new EvenLines().even(v, all + 1), BAD);
            due("even", v, -1, new EvenLines().even(v, -1), BAD);
        }
        // Round by v: a set and the same moved on by one have the same hits.
        eachSet((v, bits, set) -> {
            int on = (bits << 1 | bits >>> v - 1) & Integer.MAX_VALUE >>> 31 - v;
            due("even, moved on by one,", v, bits, new EvenLines().even(v, on), new EvenLines().even(v, bits));
            due("multipliers, moved on by one,", v, bits, new EvenLines().multipliers(v, on), new EvenLines().multipliers(v, bits));
        });
    }

    private static void hitsAreInTheSet() {
        eachSet((v, bits, set) -> {
            EvenLines x = new EvenLines();
            for (int step = 1; step < v; step++) due("hits by " + step, v, bits, x.hits(v, bits, step), hits(v, set, step));
            due("hits by 0", v, bits, x.hits(v, bits, 0), BAD);
            due("hits by v", v, bits, x.hits(v, bits, v), BAD);
        });
    }

    private static void evenSetsHaveAsManyHits() {
        eachSet((v, bits, set) -> {
            Set<Integer> numbers = new TreeSet<>();
            for (int step = 1; step < v; step++) numbers.add(hits(v, set, step));
            due("even", v, bits, new EvenLines().even(v, bits), numbers.size() == 1 ? numbers.iterator().next() : NONE);
        });
    }

    /** The rows of a set of the round's Fourier table are v vectors in k dimensions; two that are s apart are alike by their sum. */
    private static double squaredLikeness(int v, Set<Integer> set, int step) {
        double real = 0;
        double other = 0;
        for (int x : set) {
            real += Math.cos(2 * Math.PI * (x * step % v) / v);
            other += Math.sin(2 * Math.PI * (x * step % v) / v);
        }
        return (real * real + other * other) / set.size() / set.size();
    }

    private static void evenSetsGiveFramesOfTheWelch() {
        int[][] due = {{2, 1, 1000000}, {2, 2, 0}, {7, 3, 222222}, {7, 4, 125000}, {13, 4, 187500}, {31, 6, 138888}, {31, 31, 0}};
        for (int[] d : due) Check.due("welch(" + d[0] + ", " + d[1] + ")", new EvenLines().welch(d[0], d[1]), d[2]);
        double near = 1e-9;
        eachSet((v, bits, set) -> {
            int k = set.size();
            if (k == 0) return;
            double welch = (v - k) / (k * (v - 1.0));
            boolean everywhere = true;
            double greatest = 0;
            for (int step = 1; step < v; step++) {
                double likeness = squaredLikeness(v, set, step);
                everywhere &= Math.abs(likeness - welch) < near;
                greatest = Math.max(greatest, likeness);
            }
            EvenLines x = new EvenLines();
            due("the welch everywhere", v, bits, x.even(v, bits) == NONE ? 0 : 1, everywhere ? 1 : 0);
            if (x.welch(v, k) > greatest * 1000000 + near) Check.fail("the bits " + bits + " round by " + v + " have less than the welch");
            // In millionths, rounded down: what even sets have is less than one above it.
            if (everywhere && greatest * 1000000 - near * 1000000 >= x.welch(v, k) + 1) Check.fail("welch(" + v + ", " + k + ") is too small");
        });
    }

    private static void multipliersMoveTheSetRound() {
        eachSet((v, bits, set) -> {
            int multipliers = 0;
            for (int t = 1; t < v; t++) {
                boolean common = false;
                for (int divisor = 2; divisor <= t; divisor++) common |= t % divisor == 0 && v % divisor == 0;
                boolean some = false;
                for (int step = 0; step < v; step++) some |= moved(v, set, t, 0).equals(moved(v, set, 1, step));
                if (!common && some) multipliers++;
            }
            due("multipliers", v, bits, new EvenLines().multipliers(v, bits), multipliers);
        });
    }

    private static void sheetsAreRowsOfAForm() {
        int[] all = {-1, 0, 1, 2, 3, 4};
        for (int s : all) NEW.refuses(s >= 0 && s <= 3 ? NULL : BAD, "lose", s);
        int[] kept = {(byte) 0x12345678, (short) 0x12345678, 0x12345678};
        for (int s = 0; s < 4; s++) {
            for (int form = 0; form < 3; form++) {
                for (int n : new int[] {0, 1, 100}) {
                    Run made = NEW.answers(n, "sheet", s, form, n);
                    made.refuses(INDEX, "get", s, form, n);
                    for (int i = 0; i < n; i++) made = made.answers(0, "get", s, form, i);
                    if (n > 0) made.answers(1, "lay", s, form, n - 1, 0x12345678).answers(kept[form], "get", s, form, n - 1);
                    made.answers(n, "lose", s).refuses(NULL, "lose", s);
                }
                NEW.refuses(BAD, "sheet", s, form, 101);
            }
            NEW.refuses(BAD, "sheet", s, 3, 1);
            NEW.refuses(BAD, "sheet", s, -1, 1);
        }
    }

    private static void findingsChangeTheCountAlone() {
        NEW.answers(0, "count", 3);
        SHEETS.answers(5, "count", 3);
        SHEETS.answers(-10 - 1, "lose", 0).answers(1, "count", 3);
        SHEETS.answers(-10 - 2, "lay", 1, 0, 2, 0).answers(2, "count", 3);
        SHEETS.answers(-10 - 3, "lay", 1, 1, 0, 0).answers(3, "count", 3);
        SHEETS.answers(-10 - 4, "copy", 1, 0, 2, 0, 1).answers(4, "count", 3);
        SHEETS.then("lose", 0).answers(-10 - 5, "sheet", 1, 0, -1).answers(5, "count", 3);
        SHEETS.refuses(NULL, "lose", 0);
        SHEETS.refuses(INDEX, "lay", 1, 0, 2, 0);
        SHEETS.refuses(CAST, "lay", 1, 1, 0, 0);
        SHEETS.refuses(STORE, "copy", 1, 0, 2, 0, 1);
        SHEETS.refuses(SIZE, "sheet", 1, 0, -1);
    }

    private static void nullIsALostSheet() {
        SHEETS.refuses(NULL, "lose", 0);
        SHEETS.refuses(NULL, "lay", 0, 0, 0, 0);
        SHEETS.refuses(NULL, "get", 0, 0, 0);
        SHEETS.refuses(NULL, "copy", 0, 0, 1, 0, 1);
        SHEETS.refuses(NULL, "copy", 1, 0, 0, 0, 1);
        SHEETS.refuses(NULL, "load", 0, 0);
        SHEETS.refuses(NULL, "write", 0);
    }

    private static void indexIsNoItem() {
        for (int i : new int[] {LEAST, -1, 2, 3}) {
            SHEETS.refuses(INDEX, "lay", 1, 0, i, 0);
            SHEETS.refuses(INDEX, "get", 1, 0, i);
            SHEETS.refuses(INDEX, "copy", 1, i, 1, 0, 1);
            SHEETS.refuses(INDEX, "copy", 1, 0, 1, i, 1);
        }
        SHEETS.refuses(INDEX, "load", 1, 3);
        SHEETS.refuses(INDEX, "write", 2);
    }

    private static void castIsAnotherForm() {
        for (int form = 0; form < 3; form++) {
            for (int as = 0; as < 3; as++) {
                Run made = NEW.then("sheet", 0, form, 1);
                if (as == form) {
                    made.answers(1, "lay", 0, as, 0, 1);
                    made.answers(0, "get", 0, as, 0);
                } else {
                    made.refuses(CAST, "lay", 0, as, 0, 1);
                    made.refuses(CAST, "get", 0, as, 0);
                }
            }
        }
    }

    private static void storeIsUnlikeForms() {
        for (int form = 0; form < 3; form++) {
            for (int other = 0; other < 3; other++) {
                Run made = NEW.then("sheet", 0, form, 1).then("sheet", 1, other, 1);
                if (other == form) made.answers(1, "copy", 0, 0, 1, 0, 1);
                else made.refuses(STORE, "copy", 0, 0, 1, 0, 1);
            }
        }
    }

    private static void sizeIsBelowZero() {
        SHEETS.refuses(SIZE, "sheet", 1, 2, -1);
        SHEETS.refuses(SIZE, "sheet", 1, 2, LEAST);
        SHEETS.answers(0, "sheet", 1, 2, 0);
    }

    private static void theFirstRefusalThatFits() {
        Check.due("BAD", BAD, -2);
        Check.due("NOT", NOT, -3);
        Check.due("FULL", FULL, -4);
        // BAD before NOT, with no LINES; before FULL, with ten; and before the FINDINGS.
        NEW.refuses(BAD, "goes", 2, 3);
        NEW.refuses(BAD, "ways", 0);
        NEW.refuses(BAD, "grow", 21);
        Run ten = NEW.then("lines", 10);
        ten.refuses(BAD, "goes", 1, 3);
        ten.refuses(BAD, "ways", 21);
        ten.refuses(BAD, "put", 1024);
        SHEETS.refuses(BAD, "sheet", 4, 0, -1);
        SHEETS.refuses(BAD, "lay", 0, 3, 0, 0);
        SHEETS.refuses(BAD, "get", 0, 3, 0);
        SHEETS.refuses(BAD, "copy", 0, 0, 4, 0, 1);
        SHEETS.refuses(BAD, "load", 0, 11);
        // NOT and FULL, as told.
        NEW.refuses(NOT, "goes", 0, 3);
        NEW.refuses(NOT, "ways", 3);
        NEW.refuses(NOT, "grow", 3);
        ten.refuses(NOT, "name");
        ten.refuses(NOT, "plain");
        ten.refuses(NOT, "group");
        ten.refuses(FULL, "goes", 0, 3);
        ten.refuses(FULL, "ways", 3);
        ten.refuses(FULL, "put", 0);
    }

    /** One refusal of each call that has any; Run compares all that the object holds. */
    private static void refusalsChangeNothing() {
        Run some = SHEETS.then("lines", 8).then("turn", 3).then("sign", 6, 7, -1);
        Object[][] calls = {{"lines", 11}, {"sign", 0, 0, -1}, {"sign", 0, 1, 2}, {"at", 8, 0}, {"turn", 8}, {"change", 0, 8},
            {"together", 1, 1}, {"angle", 4}, {"own", 21}, {"bound", 0}, {"goes", 1, 3}, {"ways", 0}, {"put", 256}, {"grow", 0},
            {"kinds", 6}, {"hits", 7, 1, 7}, {"even", 32, 1}, {"welch", 7, 8}, {"multipliers", 1, 1}, {"find", 16, 1},
            {"sheet", 1, 3, 1}, {"lose", 4}, {"lay", 1, 3, 0, 1}, {"get", 4, 0, 0}, {"copy", 1, 0, 4, 0, 1}, {"load", 1, 11},
            {"write", 4}, {"count", 4}};
        for (Object[] call : calls) some.refuses(BAD, (String) call[0], numbersOf(call));
        for (String name : new String[] {"name", "plain", "group"}) some.refuses(NOT, name);
        some.then("lines", 10).then("turn", 9).refuses(FULL, "put", 0);
        some.refuses(INDEX, "load", 1, 3);
        some.refuses(INDEX, "write", 1);
        some.refuses(INDEX, "copy", 2, 0, 2, 1, 3);
    }

    private static int[] numbersOf(Object[] call) {
        int[] numbers = new int[call.length - 1];
        for (int i = 0; i < numbers.length; i++) numbers[i] = (Integer) call[i + 1];
        return numbers;
    }

    private static void longRefusals() {
        SHEETS.refuses(Long.MIN_VALUE + 2, "sums", 0, 3);
        SHEETS.refuses(Long.MIN_VALUE + 2, "sums", 1, -1);
        SHEETS.refuses(-9223372036854775806L, "sums", 2, 0);
    }
}
