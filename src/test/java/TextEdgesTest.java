/** The boundary cases of the text: promises 8 to 13, and each sentence on THE TEXT and its FAULT. */
public final class TextEdgesTest {
    private static final int BAD = Edges.BAD, FULL = Edges.FULL;
    private static final int BADS = Edges.BADS, FULLS = Edges.FULLS;
    private static final String EIGHT = "rowa01b12c23d34e45f56a67b78";
    private static final String NODES = "*LRPD";

    public static void main(String[] args) {
        typeNumbers();
        textIsFull();
        typeRefusedInOrder();
        clearEmptyAndFull();
        wholeTextReads();
        firstByte();
        withinWords();
        targetBytes();
        howManyTargets();
        pitchAndLengthFigures();
        nodeBytes();
        questionFigures();
        branches();
        questionsOneAboveTheOther();
        eighthQuestion();
        blanksAnywhere();
        blanksWithinWords();
        noOtherBlanks();
        endsTooEarly();
        emptyText();
        wordThatIsNeither();
        behindTheEnd();
        faultKeepsAll();
        readsMakesAnew();
        targetNumbers();
        targetEnds();
        treeNumbers();
        treeLeastAndMost();
        leafNumbers();
        leafOrder();
        questionsAreAbove();
        questionsOfSilence();
        Edges.end("TextEdgesTest");
    }

    private static void due(String what, long got, long want) {
        Edges.due(what, got, want);
    }

    /** What a new object answers to reads() of the words. */
    private static void reads(String words, int want) {
        UnitVoices x = new UnitVoices();
        due("reads of " + Edges.show(words), Edges.reads(x, words), want);
        due("told(0) to told(2) behind it", x.told(0) + x.told(1) + x.told(2), 0);
        due("told(3) behind it", x.told(3), words.length());
    }

    private static void fault(String words, int place) {
        reads(words, -10 - place);
    }

    /** Of all 128 bytes these alone can stand behind the words, which end too early with them; by others the place is the fault. */
    private static void onlyThese(String words, String bytes, int place) {
        for (char c = 0; c < 128; c++) {
            if (bytes.indexOf(c) >= 0) {
                fault(words + c, words.length() + 1);
            } else {
                fault(words + c, place);
                fault(words + c + "a11;*) ", place);
            }
        }
    }

    private static void onlyThese(String words, String bytes) {
        onlyThese(words, bytes, words.length());
    }

    /** The same behind words that a ; makes whole: it answers how many. */
    private static void onlyTheseOrEnd(String words, String bytes, int many) {
        for (char c = 0; c < 128; c++) {
            if (c == ';') {
                reads(words + c, many);
            } else if (bytes.indexOf(c) >= 0) {
                fault(words + c, words.length() + 1);
            } else {
                fault(words + c, words.length());
                fault(words + c + ";", words.length());
            }
        }
    }

    // ---- 8: type

    private static void typeNumbers() {
        Edges.sentence("8: A byte (0 .. 127); BAD");
        Edges.numbers("type", Edges::fresh, 0, 127, (x, n) -> x.type(n));
        Edges.numbers("type", Edges::rich, 0, 127, (x, n) -> x.type(n));
        UnitVoices x = new UnitVoices();
        for (int i = 1; i <= 120; i++) due("type of byte " + i, x.type(i), i);
    }

    private static void textIsFull() {
        Edges.sentence("8: how many it has; FULL: 120");
        UnitVoices x = new UnitVoices();
        for (int n = 1; n <= 120; n++) {
            due("byte number " + n, x.type(n == 120 ? ';' : ' '), n);
            due("told(2)", x.told(2), 0);
        }
        due("byte number 121", x.type(' '), FULL);
        for (int c : new int[] {0, ' ', ';', 127}) {
            Edges.refused("type(" + c + ") when full", Edges::filled, y -> y.type(c), FULL, FULLS);
        }
    }

    private static void typeRefusedInOrder() {
        Edges.sentence("8: the first of BAD, FULL");
        for (int c : new int[] {Edges.LOW, -1, 128, Edges.HIGH}) {
            Edges.refused("type(" + c + ") when full", Edges::filled, y -> y.type(c), BAD, BADS);
        }
    }

    // ---- 9: clear

    private static void clearEmptyAndFull() {
        Edges.sentence("9: THE TEXT is empty: how many it had");
        Edges.keeps("clear() of an empty one", Edges::fresh, x -> x.clear(), 0);
        UnitVoices x = Edges.filled(), y = Edges.filled();
        x.told(-1);
        x.type(0);
        due("clear() of a full one", x.clear(), 120);
        int[] want = {1, 0, 1, 0, 40, 8, 1};
        for (int what = 0; what < 7; what++) due("told(" + what + ")", x.told(what), want[what]);
        due("clear() again", x.clear(), 0);
        due("reads()", x.reads(), -10);
        for (int k = 0; k < 8; k++) due("the ROW stays", x.target(k, 1), y.target(k, 1));
        due("the TREE stays", x.tree(0), 2);
        due("the CHAIN stays", x.cost(), y.cost());
        due("room again", x.type('r'), 1);
        due("the old bytes are gone", x.reads(), -11);
    }

    // ---- 10: reads, and THE TEXT

    private static void wholeTextReads() {
        Edges.sentence("10: THE TEXT (120 bytes at most)");
        String blanks = " ".repeat(92);
        reads(EIGHT + blanks + ";", 8);
        reads(EIGHT + ";" + blanks, 8);
        reads(blanks + EIGHT + ";", 8);
        fault(EIGHT + blanks + " ", 120);
        fault(EIGHT + ";" + blanks.substring(1) + "x", 119);
        fault(" ".repeat(117) + "row", 120);
        fault(" ".repeat(118) + "ro", 120);
        fault(" ".repeat(117) + "rox", 117);
        fault(" ".repeat(119) + "x", 119);
        reads("tree" + " ".repeat(114) + "*;", 1);
        // a byte more than may be is not read
        UnitVoices x = new UnitVoices();
        Edges.type(x, EIGHT + blanks + " ");
        due("the 121st byte", x.type(';'), FULL);
        due("reads without it", x.reads(), -130);
    }

    private static void firstByte() {
        Edges.sentence("10: THE TEXT is one of: row and TARGETS; or tree and a NODE");
        onlyThese("", "rt ");
        onlyThese(" ", "rt ");
        onlyThese("   ", "rt ");
    }

    private static void withinWords() {
        Edges.sentence("10: FAULT of a word that is neither: its first byte");
        onlyThese("r", "o", 0);
        onlyThese("ro", "w", 0);
        onlyThese("t", "r", 0);
        onlyThese("tr", "e", 0);
        onlyThese("tre", "e", 0);
        onlyThese("  ro", "w", 2);
        onlyThese("   tre", "e", 3);
    }

    private static void targetBytes() {
        Edges.sentence("10: a TARGET is a letter a .. f and two figures");
        onlyThese("row", "abcdef ");
        onlyThese("row ", "abcdef ");
        onlyTheseOrEnd("row a11", "abcdef ", 1);
        onlyTheseOrEnd("row a11b22c33 ", "abcdef ", 3);
        for (char letter = 'a'; letter <= 'f'; letter++) {
            UnitVoices x = new UnitVoices();
            due("reads of " + letter, Edges.reads(x, "row " + letter + "11;"), 1);
            due("SOUND of " + letter, x.target(0, 0), letter - 'a');
        }
    }

    private static void howManyTargets() {
        Edges.sentence("10: 1 to 8 TARGETS; FAULT: a 9th TARGET");
        fault("row;", 3);
        fault("row ;", 4);
        for (int n = 1; n <= 8; n++) reads(EIGHT.substring(0, 3 + 3 * n) + ";", n);
        onlyTheseOrEnd(EIGHT.substring(0, 24), "abcdef ", 7);
        onlyTheseOrEnd(EIGHT, " ", 8);
        onlyTheseOrEnd(EIGHT + " ", " ", 8);
        fault(EIGHT + "c11;", 27);
        fault(EIGHT + "   c11;", 30);
        fault(EIGHT + "c", 27);
        fault(EIGHT + "c1x", 27);
        fault(EIGHT + "c11d11e11;", 27);
    }

    private static void pitchAndLengthFigures() {
        Edges.sentence("10: PITCH 0 .. 9, LENGTH 1 .. 9; FAULT of a figure not as told: its first byte");
        onlyThese("row a", "0123456789 ");
        onlyThese("row a ", "0123456789 ");
        onlyThese("row f0", "123456789 ");
        onlyThese("row f9", "123456789 ");
        onlyThese("row f9 ", "123456789 ");
        onlyThese("row f99a0", "123456789 ");
        reads("row a01;", 1);
        reads("row a99;", 1);
        fault("row a00;", 6);
        fault("row a11b20;", 9);
        fault("row a111;", 7);
        fault("row a1;", 6);
        fault("row a;", 5);
        UnitVoices x = new UnitVoices();
        Edges.reads(x, "row a01b99;");
        due("least PITCH", x.target(0, 1), 0);
        due("least LENGTH", x.target(0, 2), 1);
        due("most PITCH", x.target(1, 1), 9);
        due("most LENGTH", x.target(1, 2), 9);
    }

    private static void nodeBytes() {
        Edges.sentence("10: a NODE: * (a LEAF), or L, R, P, D");
        onlyThese("tree", NODES + " ");
        onlyThese("tree ", NODES + " ");
        onlyThese("tree P0(", NODES + " ");
        onlyThese("tree P0(*", NODES + " ");
        onlyTheseOrEnd("tree *", " ", 1);
        onlyTheseOrEnd("tree P0(**)", " ", 2);
        fault("tree;", 4);
        fault("tree ;", 5);
        fault("tree **;", 6);
    }

    private static void questionFigures() {
        Edges.sentence("10: a figure: L s and R s 0 .. 6, P n and D n 0 .. 9; FAULT of a figure not as told: its first byte");
        onlyThese("tree L", "0123456 ");
        onlyThese("tree R", "0123456 ");
        onlyThese("tree P", "0123456789 ");
        onlyThese("tree D", "0123456789 ");
        onlyThese("tree L ", "0123456 ");
        onlyThese("tree P0(*R", "0123456 ");
        onlyThese("tree L6", "( ");
        onlyThese("tree P9", "( ");
        for (String question : new String[] {"L0", "L6", "R0", "R6", "P0", "P9", "D0", "D9"}) reads("tree " + question + "(**);", 2);
        for (String question : new String[] {"L7", "R7", "P:", "D/", "L-1", "D("}) fault("tree " + question + "(**);", 6);
        fault("tree L10(**);", 7);
        fault("tree L(**);", 6);
    }

    private static void branches() {
        Edges.sentence("10: ( NODE NODE ): YES, NO");
        onlyThese("tree L0(*", NODES + " ");
        onlyThese("tree L0(**", ") ");
        onlyThese("tree L0(*D1(**)", ") ");
        fault("tree L0();", 8);
        fault("tree L0(*);", 9);
        fault("tree L0(***);", 10);
        fault("tree L0**);", 7);
        fault("tree L0(**;", 10);
        fault("tree L0(**));", 11);
        fault("tree (**);", 5);
        fault("tree );", 5);
    }

    private static void questionsOneAboveTheOther() {
        Edges.sentence("10: 7 QUESTIONS at most one above the other");
        for (int n = 0; n <= 7; n++) {
            UnitVoices x = new UnitVoices();
            due(n + " by YES", Edges.reads(x, "tree" + "D1(".repeat(n) + "*" + "*)".repeat(n) + ";"), n + 1);
            due("tree(1)", x.tree(1), n);
            UnitVoices y = new UnitVoices();
            due(n + " by NO", Edges.reads(y, "tree" + "D1(*".repeat(n) + "*" + ")".repeat(n) + ";"), n + 1);
            due("tree(1)", y.tree(1), n);
        }
        // more than seven are fine, if they are not one above the other
        UnitVoices x = new UnitVoices();
        String six = "P1(".repeat(6) + "*" + "*)".repeat(6);
        due("two times six below one", Edges.reads(x, "treeL0(" + six + six + ");"), 14);
        due("tree(1) of them", x.tree(1), 7);
        UnitVoices y = new UnitVoices();
        due("nine, four above one another", Edges.reads(y, "tree L0(L1(L2(**)L3(**))L4(L5(L6(**)*)P1(P2(**)*)));"), 10);
        due("tree(1) of them", y.tree(1), 4);
    }

    private static void eighthQuestion() {
        Edges.sentence("10: FAULT: the 8th QUESTION below others");
        onlyThese("tree" + "D1(".repeat(6), NODES + " ");
        onlyThese("tree" + "D1(".repeat(7), "* ");
        onlyThese("tree" + "D1(*".repeat(7), "* ");
        onlyThese("tree" + "D1(".repeat(7) + "*", "* ");
        onlyThese("tree" + "D1(".repeat(7) + "**", ") ");
        onlyThese("tree" + "D1(".repeat(7) + "**)", NODES + " ");
        fault("tree" + "D1(".repeat(8) + "*" + "*)".repeat(8) + ";", 4 + 21);
        fault("tree" + "D1(*".repeat(8) + "*" + ")".repeat(8) + ";", 4 + 28);
        fault("tree" + "D1(".repeat(7) + "  L0(**)", 4 + 21 + 2);
        fault("tree" + "D1(".repeat(7) + "Lx", 4 + 21);
        String seven = "P1(".repeat(7) + "*" + "*)".repeat(7);
        fault("treeL0(*" + seven + ");", 8 + 18);
        fault("treeL0(" + seven + "*);", 7 + 18);
    }

    private static void blanksAnywhere() {
        Edges.sentence("10: Blanks (32) may stand anywhere but within the words");
        String[] parts = {"row", "a", "0", "1", "f", "9", "9", ";"};
        String[] nodes = {"tree", "L", "6", "(", "P", "9", "(", "*", "*", ")", "*", ")", ";"};
        for (int at = 0; at <= parts.length; at++) reads(withBlanks(parts, at, 1), 2);
        for (int at = 0; at <= nodes.length; at++) reads(withBlanks(nodes, at, 3), 3);
        reads(withBlanks(parts, -1, 2), 2);
        reads(withBlanks(nodes, -1, 2), 3);
        UnitVoices x = new UnitVoices();
        Edges.reads(x, " row f 0 9 ; ");
        int[] want = {5, 0, 9};
        for (int what = 0; what < 3; what++) due("target(0, " + what + ")", x.target(0, what), want[what]);
    }

    /** The parts with blanks ahead of one of them (parts.length: behind all; -1: everywhere). */
    private static String withBlanks(String[] parts, int at, int many) {
        StringBuilder words = new StringBuilder();
        for (int i = 0; i <= parts.length; i++) {
            if (i == at || at == -1) words.append(" ".repeat(many));
            if (i < parts.length) words.append(parts[i]);
        }
        return words.toString();
    }

    private static void blanksWithinWords() {
        Edges.sentence("10: no Blanks within the words");
        fault("r ow a11;", 0);
        fault("ro w a11;", 0);
        fault("t ree *;", 0);
        fault("tr ee *;", 0);
        fault("tre e *;", 0);
        fault("  ro w a11;", 2);
        fault("r ", 0);
        fault(" tre ", 1);
    }

    private static void noOtherBlanks() {
        Edges.sentence("10: Blanks are 32 alone");
        for (char c : new char[] {0, 9, 10, 13, 31, 33, 127}) {
            fault(c + "row a11;", 0);
            fault("row" + c + "a11;", 3);
            fault("row a11" + c + ";", 7);
            fault("row a11;" + c, 8);
            fault("tree L0(*" + c + "*);", 9);
        }
    }

    private static void endsTooEarly() {
        Edges.sentence("10: FAULT: the TEXT's length, if it ends too early");
        String[] whole = {EIGHT + ";", "row f99;", "  row a 1 1 ;", "tree *;", "tree L6(P4(**)R2(*D9(**)));", " tree D 0 ( * * ) ;"};
        for (String words : whole) {
            int word = words.trim().startsWith("row") ? words.indexOf("row") : words.indexOf("tree");
            int behind = word + (words.trim().startsWith("row") ? 3 : 4);
            for (int n = 0; n < words.length(); n++) {
                fault(words.substring(0, n), n);
                // blanks at the end belong to its length; within a word they are a fault of the word
                if (n <= word || n >= behind) fault(words.substring(0, n) + "  ", n + 2);
                else fault(words.substring(0, n) + "  ", word);
            }
        }
    }

    private static void emptyText() {
        Edges.sentence("10: FAULT: the TEXT's length: an empty one, too");
        for (Edges.Make make : new Edges.Make[] {Edges::rich, Edges::filled, Edges::rowless}) {
            Edges.keeps("reads() of an empty one", () -> {
                UnitVoices x = make.anew();
                x.clear();
                return x;
            }, x -> x.reads(), -10);
        }
        for (int n = 1; n <= 120; n++) fault(" ".repeat(n), n);
    }

    private static void wordThatIsNeither() {
        Edges.sentence("10: a word that is neither");
        for (String words : new String[] {"rox a11;", "rw a11;", "Row a11;", "roW a11;", "trow a11;", "tre *;", "tree".toUpperCase() + " *;",
                "tere *;", "rree *;", "tow a11;", "a11;", "*;", ";", "x", "ro;", "tr*;"}) {
            fault(words, 0);
            fault("    " + words, 4);
        }
        // behind a whole word it is the first byte that can not stand there
        fault("rows a11;", 3);
        fault("rowrow a11;", 3);
        fault("rowtree *;", 3);
        fault("row *;", 4);
        fault("treex *;", 4);
        fault("tree a11;", 5);
        fault("tree row a11;", 5);
    }

    private static void behindTheEnd() {
        Edges.sentence("10: Nothing may stand behind the ; but blanks");
        for (char c = 0; c < 128; c++) {
            if (c == ' ') {
                reads("row a11;" + c, 1);
                reads("tree *;" + c, 1);
            } else {
                fault("row a11;" + c, 8);
                fault("row a11;   " + c, 11);
                fault("tree *;" + c, 7);
                fault(EIGHT + ";" + c, 28);
            }
        }
        fault("row a11;row b22;", 8);
        fault("row a11; tree *;", 9);
        fault("tree *;tree L0(**);", 7);
        reads("row a11;" + " ".repeat(112), 1);
    }

    private static void faultKeepsAll() {
        Edges.sentence("By a FAULT all stays, nothing counts");
        String[] words = {"row f11f22;x", "row f11f22", "row f11f20;", EIGHT + "c11;", "row", "x", "   ", "tree L0(**", "tree D1(D2(D3(**)*)*);;",
            "tree" + "D1(".repeat(8) + "*" + "*)".repeat(8) + ";", "tree L0(*L7(**));", "tree *;*"};
        int[] place = {11, 10, 9, 27, 3, 0, 3, 10, 22, 25, 10, 7};
        for (int i = 0; i < words.length; i++) {
            String text = words[i];
            int want = -10 - place[i];
            for (Edges.Make make : new Edges.Make[] {Edges::fresh, Edges::rich, Edges::filled, Edges::rowless}) {
                Edges.keeps("reads of " + text, () -> {
                    UnitVoices x = make.anew();
                    x.clear();
                    Edges.type(x, text);
                    return x;
                }, x -> x.reads(), want);
            }
        }
    }

    private static void readsMakesAnew() {
        Edges.sentence("10: THE ROW or THE TREE becomes what THE TEXT tells: how many TARGETS, LEAVES");
        UnitVoices x = Edges.filled();
        due("from eight to one", Edges.reads(x, "row f19;"), 1);
        due("told(5)", x.told(5), 1);
        due("target(0, 0)", x.target(0, 0), 5);
        due("target(1, 0)", x.target(1, 0), BAD);
        due("the TREE is as it was", x.tree(0), 2);
        due("from one to eight", Edges.reads(x, EIGHT + ";"), 8);
        due("target(7, 0)", x.target(7, 0), 1);
        due("the TREE becomes a LEAF", Edges.reads(x, "tree*;"), 1);
        due("tree(1)", x.tree(1), 0);
        due("the ROW is as it was", x.told(5), 8);
        due("reads() once more", x.reads(), 1);
        String four = "L0(L1(L2(L3(**)*)*)*)";
        due("as many LEAVES as 120 bytes tell", Edges.reads(x, "treeD1(D2(D3(" + four + four + ")D4(" + four + four + "))L5(L6(**)*));"), 23);
        due("tree(0)", x.tree(0), 23);
        due("told(4): the UNITS stay", x.told(4), 40);
    }

    // ---- 11: target

    private static void targetNumbers() {
        Edges.sentence("11: BAD: there is none, too");
        for (int n = 1; n <= 8; n++) {
            int count = n;
            Edges.numbers("target's k of " + n, () -> {
                UnitVoices x = new UnitVoices();
                Edges.reads(x, EIGHT.substring(0, 3 + 3 * count) + ";");
                return x;
            }, 0, n - 1, (x, k) -> x.target(k, 0));
        }
        Edges.numbers("target's WHAT", Edges::rich, 0, 4, (x, what) -> x.target(0, what));
        for (int k : new int[] {Edges.LOW, -1, 0, 7, 8, Edges.HIGH}) {
            Edges.refused("target(" + k + ", 0) without a ROW", Edges::rowless, x -> x.target(k, 0), BAD, BADS);
        }
    }

    private static void targetEnds() {
        Edges.sentence("11: LEFT and RIGHT of a TARGET are the SOUNDS of those beside it, silence at the ends");
        for (int n = 1; n <= 8; n++) {
            UnitVoices x = new UnitVoices();
            Edges.reads(x, EIGHT.substring(0, 3 + 3 * n) + ";");
            for (int k = 0; k < n; k++) {
                due("LEFT of " + k + " of " + n, x.target(k, 3), k == 0 ? 6 : (k - 1) % 6);
                due("RIGHT of " + k + " of " + n, x.target(k, 4), k == n - 1 ? 6 : (k + 1) % 6);
            }
        }
        UnitVoices x = new UnitVoices();
        Edges.reads(x, EIGHT + ";");
        Edges.reads(x, "row a11b22;");
        due("RIGHT of the last one behind a longer ROW", x.target(1, 4), 6);
    }

    // ---- 12: tree

    private static void treeNumbers() {
        Edges.sentence("12: BAD");
        for (Edges.Make make : new Edges.Make[] {Edges::fresh, Edges::rich, Edges::filled}) {
            Edges.numbers("tree's WHAT", make, 0, 2, (x, n) -> x.tree(n));
        }
    }

    private static void treeLeastAndMost() {
        Edges.sentence("12: LEAVES, QUESTIONS one above the other at most, LEAVES to which no UNIT comes");
        UnitVoices x = new UnitVoices();
        due("LEAVES of a LEAF", x.tree(0), 1);
        due("QUESTIONS of a LEAF", x.tree(1), 0);
        due("no UNIT, so to none", x.tree(2), 1);
        x.unit(0, 0, 0, 5, 5, 0);
        due("one UNIT to the only one", x.tree(2), 0);
        Edges.reads(x, "tree P8(*P7(*P6(*P5(*P4(*P3(*P2(**)))))));");
        due("LEAVES of seven", x.tree(0), 8);
        due("QUESTIONS of seven", x.tree(1), 7);
        due("one UNIT", x.tree(2), 7);
        for (int pitch = 9; pitch >= 2; pitch--) x.unit(0, 0, 0, pitch, 1, 0);
        due("a UNIT to each", x.tree(2), 0);
        x.empties();
        due("no UNIT any more", x.tree(2), 8);
        x.unit(0, 0, 0, 0, 1, 0);
        x.unit(5, 0, 0, 1, 1, 0);
        x.unit(3, 0, 0, 2, 1, 0);
        due("three to the same one", x.tree(2), 7);
        UnitVoices y = new UnitVoices();
        y.unit(0, 0, 0, 5, 5, 0);
        y.unit(0, 0, 0, 5, 1, 0);
        Edges.reads(y, "tree D9(*D0(**));");
        due("a LEAF to which none can come", y.tree(2), 2);
    }

    // ---- 13: leaf

    private static void leafNumbers() {
        Edges.sentence("13: BAD");
        Edges.numbers("leaf's sort", Edges::rich, 0, 1, (x, n) -> x.leaf(n, 0));
        Edges.numbers("leaf's UNIT", Edges::rich, 0, 18, (x, n) -> x.leaf(0, n));
        Edges.numbers("leaf's TARGET", Edges::rich, 0, 3, (x, n) -> x.leaf(1, n));
        Edges.numbers("leaf's UNIT, when full", Edges::filled, 0, 39, (x, n) -> x.leaf(0, n));
        Edges.numbers("leaf's TARGET, when full", Edges::filled, 0, 7, (x, n) -> x.leaf(1, n));
        Edges.refused("leaf of a UNIT that is a TARGET's number alone", () -> {
            UnitVoices x = Edges.filled();
            x.empties();
            return x;
        }, x -> x.leaf(0, 0), BAD, BADS);
        Edges.refused("leaf of a TARGET that is a UNIT's number alone", Edges::rowless, x -> x.leaf(1, 0), BAD, BADS);
        Edges.refused("leaf with both wrong", Edges::rich, x -> x.leaf(2, -1), BAD, BADS);
    }

    private static void leafOrder() {
        Edges.sentence("13: The LEAF (from 0 on, YES ahead of NO)");
        UnitVoices x = new UnitVoices();
        for (int pitch = 9; pitch >= 0; pitch--) x.unit(0, 0, 0, pitch, 1, 0);
        for (int u = 0; u < 10; u++) due("a LEAF alone", x.leaf(0, u), 0);
        Edges.reads(x, "tree P8(*P7(*P6(*P5(*P4(*P3(*P2(**)))))));");
        for (int u = 0; u < 10; u++) due("by NO, UNIT " + u, x.leaf(0, u), Math.min(u, 7));
        Edges.reads(x, "tree P2(P3(P4(P5(P6(P7(P8(**)*)*)*)*)*)*);");
        for (int u = 0; u < 10; u++) due("by YES, UNIT " + u, x.leaf(0, u), Math.min(u, 7));
    }

    private static void questionsAreAbove() {
        Edges.sentence("13: P n: PITCH is above n; D n: LENGTH is above n");
        for (int n = 0; n <= 9; n++) {
            UnitVoices x = new UnitVoices(), y = new UnitVoices();
            for (int v = 0; v <= 9; v++) {
                x.unit(0, 0, 0, v, 1, 0);
                y.unit(0, 0, 0, 0, Math.max(v, 1), 0);
            }
            Edges.reads(x, "tree P" + n + "(**);");
            Edges.reads(y, "tree D" + n + "(**);");
            for (int v = 0; v <= 9; v++) {
                due("PITCH " + v + " above " + n, x.leaf(0, v), v > n ? 0 : 1);
                due("LENGTH " + Math.max(v, 1) + " above " + n, y.leaf(0, v), Math.max(v, 1) > n ? 0 : 1);
            }
            Edges.reads(x, "row a" + n + "1" + "a" + Math.min(n + 1, 9) + "1;");
            due("a TARGET of just that PITCH", x.leaf(1, 0), 1);
            due("a TARGET of one more", x.leaf(1, 1), n == 9 ? 1 : 0);
            Edges.reads(y, "row a1" + Math.max(n, 1) + "a1" + Math.min(n + 1, 9) + ";");
            due("a TARGET of just that LENGTH", y.leaf(1, 0), n == 0 ? 0 : 1);
            due("a TARGET of one more", y.leaf(1, 1), n == 9 ? 1 : 0);
        }
    }

    private static void questionsOfSilence() {
        Edges.sentence("13: L s: LEFT is s (0 .. 6); R s: RIGHT is s");
        for (int s = 0; s <= 6; s++) {
            UnitVoices x = new UnitVoices();
            for (int beside = 0; beside <= 6; beside++) {
                x.unit(0, beside, (beside + 3) % 7, 0, 1, 0);
            }
            Edges.reads(x, "row a11b11c11;");
            Edges.reads(x, "tree L" + s + "(**);");
            for (int u = 0; u <= 6; u++) due("LEFT " + u + " is " + s, x.leaf(0, u), u == s ? 0 : 1);
            for (int k = 0; k < 3; k++) due("LEFT of TARGET " + k + " is " + s, x.leaf(1, k), s == (k == 0 ? 6 : k - 1) ? 0 : 1);
            Edges.reads(x, "tree R" + s + "(**);");
            for (int u = 0; u <= 6; u++) due("RIGHT of " + u + " is " + s, x.leaf(0, u), (u + 3) % 7 == s ? 0 : 1);
            for (int k = 0; k < 3; k++) due("RIGHT of TARGET " + k + " is " + s, x.leaf(1, k), s == (k == 2 ? 6 : k + 1) ? 0 : 1);
        }
    }
}
