/** Each promise of the document with answers worked out by hand: plain inputs, edges, wrong inputs. */
public final class PromisesTest {
    private static final int NONE = -1, BAD = -2, NO = -3, FULL = -4;
    private static final int LOW = Integer.MIN_VALUE, HIGH = Integer.MAX_VALUE;

    private static int wrong = 0;

    private static void due(int promise, String what, long got, long want) {
        if (got != want) {
            wrong++;
            System.out.println("promise " + promise + ": " + what + " answered " + got + ", due is " + want);
        }
    }

    private static int reads(UnitVoices x, String words) {
        x.clear();
        for (int i = 0; i < words.length(); i++) {
            x.type(words.charAt(i));
        }
        return x.reads();
    }

    private static void told(int promise, String when, UnitVoices x, int... want) {
        for (int what = 0; what < want.length; what++) {
            due(promise, "told(" + what + ") " + when, x.told(what), want[what]);
        }
    }

    private static long fold(long... values) {
        long h = 1987;
        for (long v : values) {
            h = 31 * h + v;
        }
        return h;
    }

    public static void main(String[] args) {
        newObject();
        unit();
        records();
        of();
        empties();
        other();
        fitter();
        typeAndClear();
        readsRows();
        readsTrees();
        readsWords();
        readsFaultKeepsAll();
        target();
        tree();
        leaf();
        choice();
        stepsAndTried();
        deepestTree();
        fit();
        joint();
        costAndChain();
        waysNextDearest();
        manyWays();
        without();
        about();
        cheapest();
        toldCounts();
        digest();
        System.out.println(wrong == 0 ? "PromisesTest: all as due" : "PromisesTest: " + wrong + " wrong");
        if (wrong != 0) System.exit(1);
    }

    private static void newObject() {
        UnitVoices x = new UnitVoices();
        told(1, "at first", x, 0, 0, 0, 0, 0, 0, 0);
        due(1, "tree(0)", x.tree(0), 1);
        due(1, "tree(1)", x.tree(1), 0);
        due(1, "empties()", x.empties(), 0);
        due(1, "clear()", x.clear(), 0);
        due(1, "fitter(0)", x.fitter(0), 0);
        for (int s = 0; s < 6; s++) {
            due(1, "other(" + s + ")", x.other(s, s), s);
        }
        due(1, "target(0, 0)", x.target(0, 0), BAD);
        due(1, "of(0, 0)", x.of(0, 0), BAD);
        due(1, "cost()", x.cost(), NO);
        UnitVoices y = new UnitVoices();
        y.unit(0, 0, 0, 0, 1, 0);
        due(1, "a second object's units are its own", x.told(4), 0);
    }

    private static void unit() {
        UnitVoices x = new UnitVoices();
        int[] low = {0, 0, 0, 0, 1, 0}, high = {5, 6, 6, 9, 9, 3};
        int refused = 0;
        for (int i = 0; i < 6; i++) {
            for (int odd : new int[] {low[i] - 1, high[i] + 1, LOW, HIGH}) {
                int[] a = low.clone();
                a[i] = odd;
                due(2, "unit with number " + i + " as " + odd, x.unit(a[0], a[1], a[2], a[3], a[4], a[5]), BAD);
                refused++;
            }
        }
        told(2, "behind BAD", x, refused, 0, 0, 0, 0, 0, 0);
        due(2, "least unit", x.unit(0, 0, 0, 0, 1, 0), 0);
        due(2, "most unit", x.unit(5, 6, 6, 9, 9, 3), 1);
        for (int u = 2; u < 40; u++) {
            due(2, "unit " + u, x.unit(0, 0, 0, 0, 1, 0), u);
        }
        due(2, "unit 40", x.unit(0, 0, 0, 0, 1, 0), FULL);
        due(2, "BAD goes ahead of FULL", x.unit(6, 0, 0, 0, 1, 0), BAD);
        told(2, "when full", x, refused + 1, 0, 1, 0, 40);
    }

    private static void records() {
        UnitVoices x = new UnitVoices();
        for (int odd : new int[] {-1, 1000000, LOW, HIGH}) {
            due(3, "records(" + odd + ", 1, 0)", x.records(odd, 1, 0), BAD);
        }
        for (int odd : new int[] {0, 10, LOW, HIGH}) {
            due(3, "records(0, " + odd + ", 0)", x.records(0, odd, 0), BAD);
        }
        for (int odd : new int[] {-1, 4, LOW, HIGH}) {
            due(3, "records(0, 1, " + odd + ")", x.records(0, 1, odd), BAD);
        }
        told(3, "behind BAD", x, 12, 0, 0, 0, 0);
        // X is 12345: by 65536 0, by 4096 3, by 1024 12
        due(3, "records(0, 1, 2)", x.records(0, 1, 2), 1);
        int[] want = {0, 6, 6, 3, 4, 2, NONE};
        for (int what = 0; what < 7; what++) {
            due(3, "of(0, " + what + ")", x.of(0, what), want[what]);
        }
        // X is 1103527590, then 2524885223 by 2147483648 left over 377401575
        due(3, "records(1, 2, 3)", x.records(1, 2, 3), 3);
        int[] first = {1103527590 / 65536 % 6, 6, 377401575 / 65536 % 6, 1103527590 / 4096 % 10, 1103527590 / 1024 % 9 + 1, 3, 2};
        int[] second = {377401575 / 65536 % 6, first[0], 6, 377401575 / 4096 % 10, 377401575 / 1024 % 9 + 1, 3, NONE};
        for (int what = 0; what < 7; what++) {
            due(3, "of(1, " + what + ")", x.of(1, what), first[what]);
            due(3, "of(2, " + what + ")", x.of(2, what), second[what]);
        }
        for (int n = 0; n < 4; n++) {
            x.records(999999, 9, n);
        }
        due(3, "units by then", x.told(4), 39);
        due(3, "two more than may be", x.records(5, 2, 0), FULL);
        due(3, "none came", x.told(4), 39);
        due(3, "the last one", x.records(5, 1, 0), 40);
        due(3, "records when full", x.records(5, 1, 0), FULL);
        due(3, "BAD goes ahead of FULL", x.records(5, 1, 4), BAD);
        told(3, "at the end", x, 13, 0, 2, 0, 40);
    }

    private static void of() {
        UnitVoices x = new UnitVoices();
        x.unit(5, 4, 3, 2, 1, 0);
        x.unit(0, 1, 2, 3, 4, 1);
        x.unit(1, 2, 3, 4, 5, 0);
        x.unit(2, 6, 6, 9, 9, 0);
        int[][] want = {{5, 4, 3, 2, 1, 0, 2}, {0, 1, 2, 3, 4, 1, NONE}, {1, 2, 3, 4, 5, 0, 3}, {2, 6, 6, 9, 9, 0, NONE}};
        for (int u = 0; u < 4; u++) {
            for (int what = 0; what < 7; what++) {
                due(4, "of(" + u + ", " + what + ")", x.of(u, what), want[u][what]);
            }
        }
        int refused = 0;
        for (int odd : new int[] {-1, 4, 39, 40, LOW, HIGH}) {
            due(4, "of(" + odd + ", 0)", x.of(odd, 0), BAD);
            refused++;
        }
        for (int odd : new int[] {-1, 7, LOW, HIGH}) {
            due(4, "of(0, " + odd + ")", x.of(0, odd), BAD);
            refused++;
        }
        due(4, "both wrong count once", x.of(-1, -1), BAD);
        told(4, "behind BAD", x, refused + 1, 0, 0);
        x.records(0, 2, 1);
        due(4, "a record follows the unit of its take", x.of(1, 6), 4);
    }

    private static void empties() {
        UnitVoices x = new UnitVoices();
        x.unit(0, 0, 0, 0, 1, 2);
        x.records(3, 5, 2);
        x.other(0, 3);
        x.fitter(2);
        reads(x, "tree P4(**);");
        reads(x, "row b25;");
        due(5, "empties()", x.empties(), 6);
        told(5, "behind", x, 0, 0, 0, 8, 0, 1, 2);
        due(5, "the tree stays", x.tree(0), 2);
        due(5, "the row stays", x.target(0, 0), 1);
        due(5, "no unit", x.of(0, 0), BAD);
        due(5, "empties() again", x.empties(), 0);
        due(5, "numbers begin anew", x.unit(1, 0, 0, 0, 1, 2), 0);
        due(5, "nothing follows it", x.of(0, 6), NONE);
        due(5, "an other take", x.unit(1, 0, 0, 0, 1, 3), 1);
        due(5, "still nothing follows it", x.of(0, 6), NONE);
        due(5, "the other stays", x.other(0, 0), 3);
        due(5, "the fitter stays", x.fitter(2), 2);
    }

    private static void other() {
        UnitVoices x = new UnitVoices();
        due(6, "other(5, 0)", x.other(5, 0), 5);
        due(6, "other(5, 3)", x.other(5, 3), 0);
        due(6, "other(5, 5)", x.other(5, 5), 3);
        due(6, "other(0, 5)", x.other(0, 5), 0);
        for (int odd : new int[] {-1, 6, LOW, HIGH}) {
            due(6, "other(" + odd + ", 0)", x.other(odd, 0), BAD);
            due(6, "other(0, " + odd + ")", x.other(0, odd), BAD);
        }
        told(6, "behind BAD", x, 8, 0, 0);
        due(6, "BAD changed nothing", x.other(0, 0), 5);
    }

    private static void fitter() {
        UnitVoices x = new UnitVoices();
        due(7, "fitter(4)", x.fitter(4), 0);
        due(7, "fitter(2)", x.fitter(2), 4);
        for (int odd : new int[] {-1, 5, LOW, HIGH}) {
            due(7, "fitter(" + odd + ")", x.fitter(odd), BAD);
        }
        told(7, "behind BAD", x, 4, 0, 0, 0, 0, 0, 2);
        due(7, "fitter(0)", x.fitter(0), 2);
    }

    private static void typeAndClear() {
        UnitVoices x = new UnitVoices();
        due(8, "type(0)", x.type(0), 1);
        due(8, "type(127)", x.type(127), 2);
        for (int odd : new int[] {-1, 128, LOW, HIGH}) {
            due(8, "type(" + odd + ")", x.type(odd), BAD);
        }
        due(9, "clear()", x.clear(), 2);
        due(9, "clear() again", x.clear(), 0);
        for (int n = 1; n <= 120; n++) {
            due(8, "byte " + n, x.type(' '), n);
        }
        due(8, "byte 121", x.type(' '), FULL);
        due(8, "BAD goes ahead of FULL", x.type(128), BAD);
        told(8, "when full", x, 5, 0, 1, 120);
        due(9, "clear() when full", x.clear(), 120);
        told(9, "behind clear", x, 5, 0, 1, 0);
        due(8, "type behind clear", x.type('r'), 1);
    }

    private static void readsRows() {
        UnitVoices x = new UnitVoices();
        String eight = "rowa01b19c99d11e55f09a11b22";
        String[] words = {
            "row a11;", "rowa11;", "  row  a 1 1  ; ", eight + ";", eight + " ;  ",
            eight + "c33;", eight + "x", eight, "row", "row ", "row;", "row a", "row a1", "row a11", "row a11 ",
            "row g11;", "row A11;", "row ax1;", "row a1x;", "row a10;", "row a111;", "row a11,b11;", "row a11;;",
            "row a11; x", "row a11;row a11;", "row *;", "row a11b1;", "row 111;", "row a11;\t", "row\ta11;"};
        int[] want = {
            1, 1, 1, 8, 8,
            -10 - 27, -10 - 27, -10 - 27, -13, -14, -13, -15, -16, -17, -18,
            -14, -14, -15, -16, -16, -17, -17, -18,
            -19, -18, -14, -19, -14, -18, -13};
        for (int i = 0; i < words.length; i++) {
            due(10, "reads of [" + words[i] + "]", reads(x, words[i]), want[i]);
        }
        told(10, "faults count nowhere", x, 0, 0, 0);
        reads(x, eight + ";");
        due(10, "the text stays", x.told(3), 28);
        due(10, "reads once more", x.reads(), 8);
        due(10, "targets", x.told(5), 8);
        reads(x, "row f93;");
        due(10, "the row is the new one alone", x.told(5), 1);
        due(10, "its sound", x.target(0, 0), 5);
    }

    private static void readsTrees() {
        UnitVoices x = new UnitVoices();
        String seven = "L0(*".repeat(7) + "*" + ")".repeat(7);
        String eight = "L0(*".repeat(8) + "*" + ")".repeat(8);
        String[] words = {
            "tree *;", "tree*;", " tree L 0 ( * * ) ; ", "tree L6(**);", "tree R6(**);", "tree P9(**);", "tree D9(**);",
            "tree D0(**);", "tree P0(**);", "tree L0(R1(**)P2(*D3(**)));", "tree" + seven + ";",
            "tree L7(**);", "tree R7(**);", "tree Lx(**);", "tree L(**);", "tree L10(**);", "tree P1**);", "tree P1(*);",
            "tree P1(***);", "tree P1()", "tree Q1(**);", "tree **;", "tree ;", "tree", "tree L", "tree L1", "tree L1(",
            "tree L1(*", "tree L1(**", "tree L1(**)", "tree *;*", "tree *", "tree l1(**);", "tree" + eight + ";",
            "tree a11;", "tree )", "tree L1(*;*)"};
        int[] want = {
            1, 1, 2, 2, 2, 2, 2,
            2, 2, 5, 8,
            -16, -16, -16, -16, -17, -17, -19,
            -20, -18, -15, -16, -15, -14, -16, -17, -18,
            -19, -20, -21, -17, -16, -15, -10 - (4 + 28),
            -15, -15, -19};
        for (int i = 0; i < words.length; i++) {
            due(10, "reads of [" + words[i] + "]", reads(x, words[i]), want[i]);
        }
        told(10, "faults count nowhere", x, 0, 0, 0);
        // the largest tree that a text of 120 bytes can tell has 23 leaves: 4 + 22 * 4 + 23 + 1 bytes
        String four = "L0(L1(L2(L3(**)*)*)*)";
        String big = "treeD1(D2(D3(" + four + four + ")D4(" + four + four + "))L5(L6(**)*));";
        due(10, "the largest tree's bytes", big.length(), 116);
        due(10, "the largest tree", reads(x, big), 23);
        due(12, "its height", x.tree(1), 7);
        due(12, "its empty leaves", x.tree(2), 23);
    }

    private static void readsWords() {
        UnitVoices x = new UnitVoices();
        String[] words = {
            "", " ", "   ", "r", "ro", "t", "tr", "tre", "  ro", "x", "  x", "rox a11;", "ro w a11;", "r ", "ro ", "  tr ee*;",
            "trow", "tree", "Row a11;", "rrow a11;", ";", "*;", "trea*;", "  roz", "a11;", "rows a11;", "treex", "tere*;"};
        int[] want = {
            -10, -11, -13, -11, -12, -11, -12, -13, -14, -10, -12, -10, -10, -10, -10, -12,
            -10, -14, -10, -10, -10, -10, -10, -12, -10, -13, -14, -10};
        for (int i = 0; i < words.length; i++) {
            due(10, "reads of [" + words[i] + "]", reads(x, words[i]), want[i]);
        }
        x.clear();
        for (int i = 0; i < 120; i++) x.type(' ');
        due(10, "reads of 120 blanks", x.reads(), -130);
        told(10, "faults count nowhere", x, 0, 0, 0, 120);
    }

    private static void readsFaultKeepsAll() {
        UnitVoices x = new UnitVoices();
        reads(x, "row a23b45;");
        reads(x, "tree L3(P4(**)*);");
        long before = x.digest();
        x.clear();
        for (char c : "row c11d22;x".toCharArray()) x.type(c);
        x.reads();
        due(10, "a row's fault keeps the row", x.target(0, 0), 0);
        due(10, "a row's fault keeps how many", x.told(5), 2);
        x.clear();
        for (char c : "tree D1(D2(D3(**)*)*);;".toCharArray()) x.type(c);
        x.reads();
        due(10, "a tree's fault keeps the leaves", x.tree(0), 3);
        due(10, "a tree's fault keeps the height", x.tree(1), 2);
        x.clear();
        for (int i = 0; i < "tree L3(P4(**)*);".length(); i++) x.type(' ');
        due(10, "all is as it was", x.digest(), before);
        x.unit(0, 3, 0, 5, 1, 0);
        due(10, "the old tree still sorts", x.leaf(0, 0), 0);
        reads(x, "row e11;");
        due(10, "reading a row keeps the tree", x.tree(0), 3);
        reads(x, "tree *;");
        due(10, "reading a tree keeps the row", x.told(5), 1);
    }

    private static void target() {
        UnitVoices x = new UnitVoices();
        due(11, "target(0, 0) without a row", x.target(0, 0), BAD);
        reads(x, "row a09b12f91;");
        int[][] want = {{0, 0, 9, 6, 1}, {1, 1, 2, 0, 5}, {5, 9, 1, 1, 6}};
        for (int k = 0; k < 3; k++) {
            for (int what = 0; what < 5; what++) {
                due(11, "target(" + k + ", " + what + ")", x.target(k, what), want[k][what]);
            }
        }
        for (int odd : new int[] {-1, 3, 7, 8, LOW, HIGH}) {
            due(11, "target(" + odd + ", 0)", x.target(odd, 0), BAD);
        }
        for (int odd : new int[] {-1, 5, LOW, HIGH}) {
            due(11, "target(0, " + odd + ")", x.target(0, odd), BAD);
        }
        told(11, "behind BAD", x, 11, 0, 0);
        reads(x, "row c55;");
        due(11, "LEFT of the only one", x.target(0, 3), 6);
        due(11, "RIGHT of the only one", x.target(0, 4), 6);
        due(11, "the old second one is gone", x.target(1, 0), BAD);
    }

    private static void tree() {
        UnitVoices x = new UnitVoices();
        due(12, "tree(2) without units", x.tree(2), 1);
        x.unit(0, 0, 0, 0, 1, 0);
        due(12, "tree(2) with a unit", x.tree(2), 0);
        reads(x, "tree L0(P4(**)R6(*D2(**)));");
        due(12, "tree(0)", x.tree(0), 5);
        due(12, "tree(1)", x.tree(1), 3);
        due(12, "tree(2)", x.tree(2), 4);
        x.unit(1, 0, 0, 1, 1, 0);
        due(12, "tree(2), another at the same leaf", x.tree(2), 4);
        x.unit(5, 1, 6, 1, 1, 0);
        due(12, "tree(2), two leaves", x.tree(2), 3);
        x.empties();
        due(12, "tree(2), none again", x.tree(2), 5);
        for (int odd : new int[] {-1, 3, LOW, HIGH}) {
            due(12, "tree(" + odd + ")", x.tree(odd), BAD);
        }
        told(12, "behind BAD", x, 4, 0, 0);
        reads(x, "tree *;");
        due(12, "tree(1) of a leaf", x.tree(1), 0);
    }

    private static void leaf() {
        UnitVoices x = new UnitVoices();
        x.unit(0, 0, 5, 5, 3, 0);
        x.unit(0, 0, 5, 4, 3, 0);
        x.unit(0, 1, 6, 4, 3, 0);
        x.unit(0, 1, 5, 4, 3, 0);
        x.unit(0, 1, 5, 4, 2, 0);
        for (int u = 0; u < 5; u++) {
            due(13, "leaf(0, " + u + ") of a leaf alone", x.leaf(0, u), 0);
        }
        reads(x, "tree L0(P4(**)R6(*D2(**)));");
        for (int u = 0; u < 5; u++) {
            due(13, "leaf(0, " + u + ")", x.leaf(0, u), u);
        }
        reads(x, "row a99a59b41c43;");
        int[] want = {3, 0, 1, 2};
        for (int k = 0; k < 4; k++) {
            due(13, "leaf(1, " + k + ")", x.leaf(1, k), want[k]);
        }
        int[][] odd = {{-1, 0}, {2, 0}, {0, -1}, {0, 5}, {1, -1}, {1, 4}, {LOW, 0}, {HIGH, 0}, {0, HIGH}, {1, LOW}};
        for (int[] a : odd) {
            due(13, "leaf(" + a[0] + ", " + a[1] + ")", x.leaf(a[0], a[1]), BAD);
        }
        told(13, "behind BAD", x, odd.length, 0, 0);
    }

    private static void choice() {
        UnitVoices x = new UnitVoices();
        due(14, "choice(0, 0) without a row", x.choice(0, 0), NO);
        due(14, "choice(7, -1) without a row", x.choice(7, NONE), NO);
        due(14, "choice(8, 0)", x.choice(8, 0), -10);
        due(14, "choice(-1, 0)", x.choice(-1, 0), -10);
        due(14, "choice(0, -2)", x.choice(0, -2), -10);
        due(14, "choice(0, low)", x.choice(0, LOW), -10);
        told(14, "behind them", x, 4, 2, 0);
        x.unit(0, 0, 0, 5, 1, 0);
        x.unit(1, 0, 0, 5, 1, 0);
        x.unit(0, 0, 0, 4, 1, 0);
        x.unit(0, 0, 0, 6, 1, 0);
        reads(x, "row a51b11c11;");
        due(14, "choice(3, 0), three targets", x.choice(3, 0), -10);
        due(14, "choice(0, -1)", x.choice(0, NONE), 3);
        int[] want = {0, 2, 3, -5, -5};
        for (int j = 0; j < 5; j++) {
            due(14, "choice(0, " + j + ")", x.choice(0, j), want[j]);
        }
        due(14, "choice(0, high)", x.choice(0, HIGH), -5);
        due(14, "choice(1, -1)", x.choice(1, NONE), 1);
        due(14, "choice(1, 0)", x.choice(1, 0), 1);
        due(14, "choice(2, -1): missing", x.choice(2, NONE), NO);
        due(14, "choice(2, 5): missing", x.choice(2, 5), NO);
        due(14, "choice(2, -2): missing, too", x.choice(2, -2), -10);
        told(14, "behind these", x, 6, 4, 0);
        reads(x, "tree P4(P8(**)*);");
        due(14, "choice(0, -1) by the leaf", x.choice(0, NONE), 2);
        due(14, "choice(0, 1) by the leaf", x.choice(0, 1), 3);
        reads(x, "row a91;");
        due(14, "choice(0, -1) by the node above", x.choice(0, NONE), 2);
        due(14, "choice(0, 0) by the node above", x.choice(0, 0), 0);
        due(14, "steps", x.steps(0), 1);
        reads(x, "row b01;");
        due(14, "choice(0, 0) by the whole tree", x.choice(0, 0), 1);
    }

    private static void stepsAndTried() {
        UnitVoices x = new UnitVoices();
        for (int odd : new int[] {-1, 0, 7, 8, LOW, HIGH}) {
            due(15, "steps(" + odd + ") without a row", x.steps(odd), BAD);
            due(16, "tried(" + odd + ") without a row", x.tried(odd), BAD);
        }
        told(15, "behind BAD", x, 12, 0, 0);
        reads(x, "row a95;");
        due(15, "steps(1)", x.steps(1), BAD);
        due(16, "tried(1)", x.tried(1), BAD);
        reads(x, "tree P4(P8(**)*);");
        due(15, "missing", x.steps(0), NONE);
        due(16, "missing", x.tried(0), 1);
        told(15, "missing is not refused", x, 14, 0, 0);
        x.unit(0, 0, 0, 9, 1, 0);
        due(15, "at the leaf", x.steps(0), 0);
        x.empties();
        x.unit(0, 0, 0, 8, 1, 0);
        due(15, "one above", x.steps(0), 1);
        x.empties();
        x.unit(0, 0, 0, 4, 1, 0);
        due(15, "at the top", x.steps(0), 2);
        x.other(0, 3);
        due(16, "the other is not asked for", x.tried(0), 1);
        x.empties();
        x.unit(3, 0, 0, 9, 1, 0);
        due(15, "the other's leaf", x.steps(0), 3);
        due(16, "the other", x.tried(0), 2);
        x.empties();
        x.unit(3, 0, 0, 0, 1, 0);
        due(15, "the other's top", x.steps(0), 5);
        x.empties();
        x.unit(5, 0, 0, 0, 1, 0);
        due(15, "no other of the other", x.steps(0), NONE);
        due(16, "two were tried", x.tried(0), 2);
        x.other(3, 5);
        due(15, "the third sound's top", x.steps(0), 8);
        due(16, "the third sound", x.tried(0), 3);
        x.empties();
        x.other(5, 3);
        due(15, "round and round", x.steps(0), NONE);
        due(16, "each but once", x.tried(0), 3);
        for (int s = 0; s < 6; s++) x.other(s, (s + 1) % 6);
        due(16, "all six", x.tried(0), 6);
        x.unit(5, 0, 0, 0, 1, 0);
        due(15, "the sixth sound's top", x.steps(0), 17);
        due(16, "the sixth sound", x.tried(0), 6);
    }

    private static void deepestTree() {
        UnitVoices x = new UnitVoices();
        due(10, "seven questions", reads(x, "tree P8(*P7(*P6(*P5(*P4(*P3(*P2(**)))))));"), 8);
        due(12, "seven one above the other", x.tree(1), 7);
        reads(x, "row a01;");
        due(13, "the target's leaf", x.leaf(1, 0), 7);
        for (int pitch = 0; pitch <= 9; pitch++) {
            x.empties();
            x.unit(0, 6, 6, pitch, 1, 0);
            due(13, "the leaf of pitch " + pitch, x.leaf(0, 0), Math.min(7, 9 - pitch));
            due(15, "steps to pitch " + pitch, x.steps(0), Math.max(0, pitch - 2));
            due(14, "the choice of pitch " + pitch, x.choice(0, 0), 0);
        }
        for (int s = 0; s < 5; s++) x.other(s, s + 1);
        x.empties();
        x.unit(5, 6, 6, 9, 1, 0);
        due(15, "most steps", x.steps(0), 5 * 8 + 7);
        due(19, "cost by the last sound", x.cost(), 9);
    }

    private static void fit() {
        UnitVoices x = new UnitVoices();
        due(17, "fit(0, 0) without all", x.fit(0, 0), BAD);
        x.unit(2, 0, 6, 2, 8, 0);
        due(17, "fit(0, 0) without a row", x.fit(0, 0), BAD);
        x.unit(0, 6, 1, 9, 1, 0);
        reads(x, "row a53b11;");
        // unit 0 for target 0: pitch 3, length 5, left and right unlike; unit 1: pitch 4, length 2, both alike
        int[] unit0 = {8, 12, 11, 24, 5}, unit1 = {6, 6, 10, 12, 5};
        // unit 0 for target 1: pitch 1, length 7, left and right alike; unit 1: pitch 8, length 0, both unlike
        int[] unit0At1 = {8, 8, 9, 16, 4}, unit1At1 = {8, 12, 16, 24, 8};
        for (int kind = 0; kind < 5; kind++) {
            x.fitter(kind);
            due(17, "fit(0, 0) by " + kind, x.fit(0, 0), unit0[kind]);
            due(17, "fit(1, 0) by " + kind, x.fit(1, 0), unit1[kind]);
            due(17, "fit(0, 1) by " + kind, x.fit(0, 1), unit0At1[kind]);
            due(17, "fit(1, 1) by " + kind, x.fit(1, 1), unit1At1[kind]);
        }
        int[][] odd = {{-1, 0}, {2, 0}, {0, -1}, {0, 2}, {LOW, 0}, {HIGH, 0}, {0, LOW}, {0, HIGH}};
        for (int[] a : odd) {
            due(17, "fit(" + a[0] + ", " + a[1] + ")", x.fit(a[0], a[1]), BAD);
        }
        told(17, "behind BAD", x, odd.length + 2, 0, 0);
    }

    private static void joint() {
        UnitVoices x = new UnitVoices();
        due(18, "joint(0, 0) without units", x.joint(0, 0), BAD);
        x.unit(0, 6, 1, 2, 1, 0);
        x.unit(1, 3, 2, 7, 1, 1);
        x.unit(1, 0, 0, 9, 1, 0);
        x.unit(4, 4, 4, 4, 1, 0);
        due(18, "that follows", x.joint(0, 2), 0);
        due(18, "that goes back", x.joint(2, 0), 3 + 7 + 0 + 2);
        due(18, "right of u alone", x.joint(0, 1), 3 + 5 + 0 + 2);
        due(18, "neither", x.joint(1, 0), 3 + 5 + 2 + 2);
        due(18, "left of v alone", x.joint(0, 3), 3 + 2 + 2 + 2);
        due(18, "to itself, both alike", x.joint(3, 3), 3);
        due(18, "to itself, both unlike", x.joint(0, 0), 3 + 2 + 2);
        due(18, "follows, though all is unlike", x.joint(2, 3), 0);
        x.unit(2, 1, 6, 7, 1, 2);
        due(18, "both alike", x.joint(1, 4), 3);
        int[][] odd = {{-1, 0}, {5, 0}, {0, -1}, {0, 5}, {LOW, 0}, {HIGH, 0}, {0, LOW}, {0, HIGH}};
        for (int[] a : odd) {
            due(18, "joint(" + a[0] + ", " + a[1] + ")", x.joint(a[0], a[1]), BAD);
        }
        told(18, "behind BAD", x, odd.length + 1, 0, 0);
    }

    /** Units 0 a, 1 a, 2 b, 3 b, of takes of their own but 1 and 2, all of pitch 5 and length 5, silence beside. */
    private static UnitVoices fourUnits() {
        UnitVoices x = new UnitVoices();
        x.unit(0, 6, 6, 5, 5, 0);
        x.unit(0, 6, 6, 5, 5, 1);
        x.unit(1, 6, 6, 5, 5, 1);
        x.unit(1, 6, 6, 5, 5, 2);
        return x;
    }

    private static void costAndChain() {
        UnitVoices x = fourUnits();
        due(19, "cost() without a row", x.cost(), NO);
        due(20, "chain(0) without a row", x.chain(0), NO);
        due(20, "chain(7) without a row", x.chain(7), NO);
        due(20, "chain(8) without a row", x.chain(8), BAD);
        due(20, "chain(-1) without a row", x.chain(-1), BAD);
        reads(x, "row a55b55;");
        due(19, "cost()", x.cost(), 0);
        due(20, "chain(0)", x.chain(0), 1);
        due(20, "chain(1)", x.chain(1), 2);
        for (int odd : new int[] {-1, 2, 7, 8, LOW, HIGH}) {
            due(20, "chain(" + odd + ")", x.chain(odd), BAD);
        }
        reads(x, "row b55a55;");
        due(19, "cost() the other way", x.cost(), 7);
        due(20, "the first of like ones", x.chain(0), 2);
        due(20, "the first of like ones", x.chain(1), 0);
        reads(x, "row a55b55a55;");
        due(19, "cost() of three", x.cost(), 7);
        due(20, "chain(0) of three", x.chain(0), 1);
        due(20, "chain(1) of three", x.chain(1), 2);
        due(20, "chain(2) of three", x.chain(2), 0);
        reads(x, "row a55c55;");
        due(19, "cost() with one missing", x.cost(), NO);
        due(20, "chain(0) with one missing", x.chain(0), NO);
        due(20, "chain(2) with one missing", x.chain(2), BAD);
        told(20, "behind these", x, 9, 5, 0);
        x.other(2, 1);
        due(19, "cost() by the other", x.cost(), 0);
        due(20, "chain(1) by the other", x.chain(1), 2);
        // a dear first unit may be worth its joint: fits 2 and 0 with joint 0 against 0 and 0 with joint 7
        x.empties();
        x.unit(0, 6, 6, 5, 5, 0);
        x.unit(0, 6, 6, 4, 6, 1);
        x.unit(1, 6, 6, 5, 5, 1);
        due(19, "cost() of the dear one", x.cost(), 2);
        due(20, "chain(0), the dear one", x.chain(0), 1);
        x.fitter(2);
        due(19, "cost() by another fitter", x.cost(), 3);
    }

    private static void waysNextDearest() {
        UnitVoices x = fourUnits();
        due(21, "ways() without a row", x.ways(), NO);
        due(22, "next() without a row", x.next(), NO);
        due(23, "dearest() without a row", x.dearest(), NO);
        told(21, "behind NO", x, 0, 3, 0);
        reads(x, "row a55b55;");
        due(21, "ways()", x.ways(), 1);
        due(22, "next()", x.next(), 7);
        due(23, "dearest()", x.dearest(), 7);
        reads(x, "row b55a55;");
        due(21, "ways() of like ones", x.ways(), 4);
        due(22, "next() costs as much", x.next(), 7);
        due(23, "dearest() costs as much", x.dearest(), 7);
        x.unit(0, 6, 6, 9, 1, 3);
        due(21, "ways() with a dear one more", x.ways(), 4);
        due(23, "dearest() is the dear one", x.dearest(), 8 + 11);
        reads(x, "row b11;");
        due(21, "ways() of one target", x.ways(), 2);
        due(22, "next() of one target", x.next(), 8);
        x.empties();
        x.unit(1, 6, 6, 1, 1, 0);
        due(21, "ways() of one unit", x.ways(), 1);
        due(22, "next() of one unit", x.next(), NONE);
        due(23, "dearest() of one unit", x.dearest(), 0);
        reads(x, "row b11b11b11;");
        due(22, "next() of one chain of three", x.next(), NONE);
        due(23, "dearest() of one chain of three", x.dearest(), 14);
        x.unit(1, 6, 6, 3, 1, 1);
        due(22, "next() with the second at an end", x.next(), 14 + 2 + 2);
        told(22, "NONE is not refused", x, 0, 3, 0);
        x.empties();
        due(21, "ways() with all missing", x.ways(), NO);
        due(22, "next() with all missing", x.next(), NO);
        due(23, "dearest() with all missing", x.dearest(), NO);
        told(23, "behind NO", x, 0, 6, 0);
    }

    private static void manyWays() {
        UnitVoices x = new UnitVoices();
        for (int u = 0; u < 40; u++) {
            x.unit(u / 20, 6, 6, 5, 5, u / 20);
        }
        String row = "row";
        long ways = 1;
        for (int n = 1; n <= 8; n++) {
            row += (n % 2 == 0 ? "b55" : "a55");
            ways *= 20;
            reads(x, row + ";");
            // the followers of a's are a's and those of b's are b's, so none is of use
            due(21, "ways() of " + n + " targets", x.ways(), Math.min(ways, 1000000000L));
            due(19, "cost() of " + n + " targets", x.cost(), 7 * (n - 1));
            due(20, "the last unit", x.chain(n - 1), n % 2 == 0 ? 20 : 0);
        }
        // all of one sound and take: 33 chains of followers, from units 0 to 32 on, cost nothing
        x.empties();
        for (int u = 0; u < 40; u++) {
            x.unit(0, 6, 6, 5, 5, 0);
        }
        reads(x, "row a55a55a55a55a55a55a55a55;");
        due(21, "ways() by followers", x.ways(), 33);
        due(19, "cost() by followers", x.cost(), 0);
        due(22, "next() by followers", x.next(), 0);
        due(23, "dearest() of all", x.dearest(), 49);
        for (int k = 0; k < 8; k++) {
            due(20, "chain(" + k + ") by followers", x.chain(k), k);
        }
        due(24, "without(3): it begins behind it", x.without(3), 0);
    }

    private static void without() {
        UnitVoices x = fourUnits();
        due(24, "without(0) without a row", x.without(0), NO);
        for (int odd : new int[] {-1, 4, 40, LOW, HIGH}) {
            due(24, "without(" + odd + ")", x.without(odd), BAD);
        }
        told(24, "behind these", x, 5, 1, 0);
        reads(x, "row a55b55;");
        int[] want = {0, 7, 7, 0};
        for (int u = 0; u < 4; u++) {
            due(24, "without(" + u + ")", x.without(u), want[u]);
        }
        due(24, "it is there still", x.cost(), 0);
        // were unit 1 not there, unit 2 would still not follow unit 0 of the same take
        x.empties();
        for (int u = 0; u < 3; u++) {
            x.unit(0, 6, 6, 5, 5, 0);
        }
        reads(x, "row a55a55;");
        due(24, "without the one in the middle", x.without(1), 7);
        due(24, "without the first", x.without(0), 0);
        // alone at its leaf: the choice goes on to the node above
        x.empties();
        reads(x, "row a91;");
        reads(x, "tree P4(**);");
        x.unit(0, 6, 6, 9, 1, 0);
        due(24, "alone in all", x.without(0), NO);
        x.unit(0, 6, 6, 1, 1, 0);
        due(24, "by the node above", x.without(0), 8);
        due(24, "the one that is not chosen", x.without(1), 0);
        x.empties();
        x.unit(0, 6, 6, 9, 1, 0);
        x.unit(3, 6, 6, 7, 1, 0);
        x.other(0, 3);
        due(24, "by the other", x.without(0), 2);
        x.other(0, 0);
        due(24, "missing then", x.without(0), NO);
        due(24, "not missing now", x.cost(), 0);
        told(24, "at the end", x, 5, 3, 0);
    }

    private static void about() {
        UnitVoices x = fourUnits();
        for (int what = 0; what < 4; what++) {
            due(25, "about(" + what + ") without a row", x.about(what), NO);
        }
        for (int odd : new int[] {-1, 4, LOW, HIGH}) {
            due(25, "about(" + odd + ")", x.about(odd), BAD);
        }
        told(25, "behind these", x, 4, 4, 0);
        int[] three = {1, 3, 7, 7};
        reads(x, "row a56;");
        int[] one = {0, 1, 0, 0};
        for (int what = 0; what < 4; what++) {
            due(25, "about(" + what + ") of one", x.about(what), one[what]);
        }
        reads(x, "row a55b54a35;");
        for (int what = 0; what < 4; what++) {
            due(25, "about(" + what + ") of three", x.about(what), three[what]);
        }
        x.fitter(3);
        // by STRICT each side unlike costs 4: a has right unlike, b both, a left
        due(25, "about(1) by STRICT", x.about(1), 4 + (2 + 8) + (4 + 4));
        due(25, "about(2) by STRICT", x.about(2), 7);
        due(25, "cost() is both", x.cost(), 22 + 7);
        reads(x, "row d55;");
        due(25, "about(0), missing", x.about(0), NO);
    }

    private static void cheapest() {
        UnitVoices x = new UnitVoices();
        for (int what = 0; what < 2; what++) {
            due(26, "cheapest(" + what + ") without a row", x.cheapest(what), NO);
        }
        for (int odd : new int[] {-1, 2, LOW, HIGH}) {
            due(26, "cheapest(" + odd + ")", x.cheapest(odd), BAD);
        }
        told(26, "behind these", x, 4, 2, 0);
        x.unit(0, 6, 6, 5, 5, 0);
        reads(x, "row a55;");
        x.fitter(3);
        due(26, "of like ones the least", x.cheapest(0), 0);
        due(26, "how much", x.cheapest(1), 0);
        reads(x, "row a85;");
        // PLAIN 3, BESIDE 3, HIGH 6, STRICT 6, LAX 3
        due(26, "PLAIN ahead of LAX", x.cheapest(0), 0);
        due(26, "how much by PLAIN", x.cheapest(1), 3);
        reads(x, "row a57;");
        // PLAIN 2, HIGH 2, LAX 1
        due(26, "LAX", x.cheapest(0), 4);
        due(26, "how much by LAX", x.cheapest(1), 1);
        due(26, "the fitter stays", x.told(6), 3);
        // by PLAIN the chain is unit 1 (3), by LAX unit 0 (2 of PLAIN 5), so THE CHAIN is another one
        x.empties();
        x.fitter(0);
        x.unit(0, 6, 6, 5, 9, 0);
        x.unit(0, 6, 6, 8, 4, 0);
        reads(x, "row a54;");
        due(26, "the chain by PLAIN", x.chain(0), 1);
        due(26, "each KIND with its own chain", x.cheapest(0), 4);
        due(26, "how much by its own chain", x.cheapest(1), 2);
        reads(x, "row d11;");
        due(26, "cheapest(0), missing", x.cheapest(0), NO);
        told(26, "at the end", x, 4, 3, 0);
    }

    private static void toldCounts() {
        UnitVoices x = new UnitVoices();
        x.fitter(9);
        x.choice(9, 0);
        x.cost();
        told(27, "BAD, BAD of choice, NO", x, 2, 1, 0);
        for (int odd : new int[] {-1, 7, LOW, HIGH}) {
            due(27, "told(" + odd + ")", x.told(odd), BAD);
        }
        told(27, "told itself is refused", x, 6, 1, 0);
        x.fitter(4);
        x.records(1, 9, 1);
        reads(x, "row a11b22c33;");
        told(27, "all", x, 6, 1, 0, 14, 9, 3, 4);
        reads(x, "row a11b22c33");
        told(27, "a fault counts nowhere", x, 6, 1, 0, 13, 9, 3, 4);
        for (int i = 0; i < 4; i++) x.records(1, 9, 1);
        told(27, "FULL", x, 6, 1, 1, 13, 36, 3, 4);
    }

    private static void digest() {
        UnitVoices x = new UnitVoices();
        long empty = fold(0, 0, 0, 0, 0, 0, 0, 0, 1, 2, 3, 4, 5, 1, 0, -1);
        due(28, "digest() of a new one", x.digest(), empty);
        due(28, "digest() is not refused", x.digest(), empty);
        due(28, "digest() counts nothing", x.told(1), 0);
        x.unit(0, 6, 1, 5, 6, 3);
        x.unit(1, 0, 6, 7, 8, 2);
        x.other(2, 1);
        x.fitter(2);
        x.cost();
        x.type(-1);
        reads(x, "tree P4(*D2(**));");
        reads(x, "row a46c88;");
        // fits: pitch 1 twice; pitch 1 twice; joint 3 and 2, beside is as told
        due(28, "digest()", x.digest(),
            fold(1, 1, 0, 11, 2, 2, 2, 0, 6, 1, 5, 6, 3, 1, 0, 6, 7, 8, 2, 0, 1, 1, 3, 4, 5, 0, 4, 6, 2, 8, 8, 3, 2, 9, 0, 1));
        x.other(2, 2);
        due(28, "digest() with one missing", x.digest(),
            fold(1, 1, 0, 11, 2, 2, 2, 0, 6, 1, 5, 6, 3, 1, 0, 6, 7, 8, 2, 0, 1, 2, 3, 4, 5, 0, 4, 6, 2, 8, 8, 3, 2, -1));
    }
}
