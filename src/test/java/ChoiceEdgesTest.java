/** The boundary cases of choices: promises 14 to 18, and when a TARGET is MISSING. */
public final class ChoiceEdgesTest {
    private static final int NONE = Edges.NONE, BAD = Edges.BAD, NO = Edges.NO;
    private static final int BADS = Edges.BADS, NOES = Edges.NOES;
    private static final int BAD_CHOICE = -10, NOT_SO_MANY = -5;
    private static final String EIGHT = "rowa01b12c23d34e45f56a67b78";

    public static void main(String[] args) {
        choiceNumbers();
        choiceNumbersWithoutARow();
        choiceWithoutARow();
        choiceOfAMissingTarget();
        choiceRefusedInOrder();
        notSoMany();
        leastAndMostChosen();
        allAtTheLeaf();
        byTheNodeAbove();
        byTheWholeTree();
        byTheOther();
        elseAlike();
        secondTime();
        stepsNumbers();
        stepsLeastAndMost();
        stepsOfAMissingTarget();
        triedNumbers();
        triedLeastAndMost();
        fitNumbers();
        fitLeastAndMost();
        fitCut();
        fitOfAnyUnit();
        jointNumbers();
        jointLeastAndMost();
        jointFollows();
        Edges.end("ChoiceEdgesTest");
    }

    private static void due(String what, long got, long want) {
        Edges.due(what, got, want);
    }

    private static UnitVoices read(String... texts) {
        UnitVoices x = new UnitVoices();
        for (String words : texts) Edges.reads(x, words);
        return x;
    }

    /** Targets a, b, a, of which b alone has units (and a no OTHER). */
    private static UnitVoices missingAtTheEnds() {
        UnitVoices x = read("row a11b22a33;", "tree P4(**);");
        x.unit(1, 6, 6, 2, 2, 0);
        x.unit(1, 6, 6, 9, 9, 0);
        x.unit(2, 6, 6, 9, 9, 0);
        return x;
    }

    // ---- 14: choice

    private static void choiceNumbers() {
        Edges.sentence("14: BAD: -10 (k as by chain(k): as many as there are TARGETS or more)");
        for (int n = 1; n <= 8; n++) {
            int count = n;
            Edges.numbers("choice's k of " + n, () -> {
                UnitVoices x = read(EIGHT.substring(0, 3 + 3 * count) + ";");
                x.records(7, 9, 0);
                return x;
            }, 0, n - 1, (x, k) -> x.choice(k, NONE), BAD_CHOICE);
        }
        Edges.sentence("14: BAD: -10 (j is NONE or from 0 on)");
        Edges.numbers("choice's j", Edges::rich, NONE, Edges.HIGH, (x, j) -> x.choice(0, j), BAD_CHOICE);
        Edges.refused("choice with both wrong", Edges::rich, x -> x.choice(-1, -2), BAD_CHOICE, BADS);
    }

    private static void choiceNumbersWithoutARow() {
        Edges.sentence("14: BAD: -10 (k as by chain(k): not 0 .. 7)");
        Edges.numbers("choice's k without a ROW", Edges::rowless, 0, 7, (x, k) -> x.choice(k, NONE), BAD_CHOICE);
        Edges.numbers("choice's j without a ROW", Edges::rowless, NONE, Edges.HIGH, (x, j) -> x.choice(0, j), BAD_CHOICE);
    }

    private static void choiceWithoutARow() {
        Edges.sentence("14: NO: there is no ROW");
        for (int k = 0; k < 8; k++) {
            int at = k;
            for (int j : new int[] {NONE, 0, 39, 40, Edges.HIGH}) {
                Edges.refused("choice(" + k + ", " + j + ")", Edges::rowless, x -> x.choice(at, j), NO, NOES);
            }
        }
        Edges.refused("choice(0, -1) of a new one", Edges::fresh, x -> x.choice(0, NONE), NO, NOES);
    }

    private static void choiceOfAMissingTarget() {
        Edges.sentence("14: NO: for a CHOICE that TARGET alone");
        for (int k = 0; k < 3; k += 2) {
            int at = k;
            for (int j : new int[] {NONE, 0, 5, Edges.HIGH}) {
                Edges.refused("choice(" + k + ", " + j + ")", ChoiceEdgesTest::missingAtTheEnds, x -> x.choice(at, j), NO, NOES);
            }
        }
        Edges.keeps("choice(1, -1) beside those", ChoiceEdgesTest::missingAtTheEnds, x -> x.choice(1, NONE), 1);
        Edges.keeps("choice(1, 0) beside those", ChoiceEdgesTest::missingAtTheEnds, x -> x.choice(1, 0), 0);
        Edges.keeps("choice(1, 1) beside those", ChoiceEdgesTest::missingAtTheEnds, x -> x.choice(1, 1), NOT_SO_MANY);
    }

    private static void choiceRefusedInOrder() {
        Edges.sentence("14: the first of BAD, NO");
        Edges.refused("choice(8, 0) without a ROW", Edges::rowless, x -> x.choice(8, 0), BAD_CHOICE, BADS);
        Edges.refused("choice(0, -2) without a ROW", Edges::rowless, x -> x.choice(0, -2), BAD_CHOICE, BADS);
        Edges.refused("choice(3, 0), two MISSING", ChoiceEdgesTest::missingAtTheEnds, x -> x.choice(3, 0), BAD_CHOICE, BADS);
        Edges.refused("choice(0, -2), MISSING", ChoiceEdgesTest::missingAtTheEnds, x -> x.choice(0, -2), BAD_CHOICE, BADS);
    }

    private static void notSoMany() {
        Edges.sentence("14: -5: not so many");
        Edges.Make three = () -> {
            UnitVoices x = read("row a55;");
            for (int u = 0; u < 6; u++) x.unit(u % 2, 6, 6, 5, 5, 0);
            return x;
        };
        Edges.keeps("choice(0, -1)", three, x -> x.choice(0, NONE), 3);
        int[] want = {0, 2, 4, NOT_SO_MANY, NOT_SO_MANY, NOT_SO_MANY, NOT_SO_MANY};
        for (int j = 0; j < want.length; j++) {
            int at = j;
            Edges.keeps("choice(0, " + j + ")", three, x -> x.choice(0, at), want[at]);
        }
        for (int j : new int[] {38, 39, 40, 41, Edges.HIGH - 1, Edges.HIGH}) {
            Edges.keeps("choice(0, " + j + ")", three, x -> x.choice(0, j), NOT_SO_MANY);
        }
    }

    private static void leastAndMostChosen() {
        Edges.sentence("14: How many UNITS are in the CHOICE (j = NONE), the j-th (rising)");
        UnitVoices x = read("row f55;");
        for (int u = 0; u < 40; u++) {
            x.unit(5, 6, 6, 5, 5, u % 4);
            due("with " + (u + 1), x.choice(0, NONE), u + 1);
            due("the last of them", x.choice(0, u), u);
            due("one more", x.choice(0, u + 1), NOT_SO_MANY);
        }
        for (int j = 0; j < 40; j++) due("rising", x.choice(0, j), j);
    }

    private static void allAtTheLeaf() {
        Edges.sentence("CHOICE: all UNITS of its SOUND that come to its LEAF");
        UnitVoices x = read("row a55;", "tree P4(**);");
        x.unit(0, 6, 6, 5, 1, 0);
        x.unit(0, 6, 6, 4, 1, 0);
        x.unit(1, 6, 6, 5, 1, 0);
        x.unit(0, 6, 6, 9, 1, 0);
        due("how many", x.choice(0, NONE), 2);
        due("the first", x.choice(0, 0), 0);
        due("the second", x.choice(0, 1), 3);
        due("STEPS", x.steps(0), 0);
    }

    private static void byTheNodeAbove() {
        Edges.sentence("CHOICE: If there are none: those that come to the NODE above that (by whatever answers below)");
        UnitVoices x = read("row a95;", "tree P4(P7(P8(**)D4(**))*);");
        x.unit(0, 6, 6, 4, 1, 0);
        x.unit(0, 6, 6, 7, 1, 0);
        x.unit(0, 6, 6, 5, 9, 0);
        due("two above, whatever the answer to D", x.choice(0, NONE), 2);
        due("the first of them", x.choice(0, 0), 1);
        due("STEPS", x.steps(0), 2);
        x.unit(0, 6, 6, 8, 1, 0);
        due("one above now", x.choice(0, NONE), 1);
        due("it", x.choice(0, 0), 3);
        due("STEPS", x.steps(0), 1);
        x.unit(0, 6, 6, 9, 1, 0);
        due("at the LEAF now", x.choice(0, 0), 4);
        due("STEPS", x.steps(0), 0);
    }

    private static void byTheWholeTree() {
        Edges.sentence("CHOICE: and so on up to the whole TREE");
        UnitVoices x = read("row a95;", "tree P4(P7(P8(**)D4(**))*);");
        x.unit(0, 6, 6, 4, 1, 0);
        x.unit(1, 6, 6, 9, 5, 0);
        x.other(0, 1);
        due("the OTHER is not yet asked for", x.choice(0, 0), 0);
        due("how many", x.choice(0, NONE), 1);
        due("STEPS", x.steps(0), 3);
        due("tried", x.tried(0), 1);
        // from the LEAF below one QUESTION to a UNIT below all seven
        UnitVoices y = read("row a95;", "tree P8(*P7(*P6(*P5(*P4(*P3(*P2(**)))))));");
        y.unit(0, 6, 6, 0, 1, 0);
        y.unit(0, 6, 6, 8, 1, 0);
        due("both are below the whole TREE", y.choice(0, NONE), 2);
        due("the lowest one", y.choice(0, 0), 0);
        due("STEPS", y.steps(0), 1);
        UnitVoices z = read("row a05;", "tree P2(P3(P4(P5(P6(P7(P8(**)*)*)*)*)*)*);");
        z.unit(0, 6, 6, 9, 1, 0);
        due("the same by YES", z.choice(0, 0), 0);
        due("STEPS", z.steps(0), 1);
    }

    private static void byTheOther() {
        Edges.sentence("CHOICE: if none there either, the same begins anew with the OTHER of that SOUND, and so on");
        UnitVoices x = read("row a95;", "tree P4(P8(**)*);");
        x.unit(4, 6, 6, 9, 1, 0);
        x.unit(4, 6, 6, 8, 1, 0);
        x.unit(4, 6, 6, 1, 1, 0);
        due("no OTHER", x.choice(0, NONE), NO);
        x.other(0, 4);
        due("at the OTHER's LEAF", x.choice(0, NONE), 1);
        due("STEPS: two up, one over", x.steps(0), 3);
        x.other(0, 3);
        due("an OTHER without UNITS and without an OTHER", x.choice(0, NONE), NO);
        x.other(3, 4);
        due("the OTHER's OTHER", x.choice(0, 0), 0);
        due("STEPS", x.steps(0), 6);
        due("tried", x.tried(0), 3);
        x.other(4, 0);
        due("a ring does not matter where there are UNITS", x.choice(0, 0), 0);
    }

    private static void elseAlike() {
        Edges.sentence("CHOICE: for a TARGET that is else alike (LEFT, RIGHT, PITCH, LENGTH)");
        UnitVoices x = read("row a95a95;", "tree L0(*L6(**));");
        x.other(0, 1);
        x.unit(1, 0, 6, 1, 1, 0);
        x.unit(1, 6, 6, 1, 1, 0);
        x.unit(1, 1, 6, 1, 1, 0);
        due("LEFT of the first is silence", x.choice(0, 0), 1);
        due("one alone", x.choice(0, NONE), 1);
        due("LEFT of the second is a still, not its OTHER", x.choice(1, 0), 0);
        due("one alone", x.choice(1, NONE), 1);
        due("STEPS of the second", x.steps(1), 2);
        x.fitter(1);
        due("FIT by LEFT as it is", x.fit(0, 1), 8 + 4);
    }

    private static void secondTime() {
        Edges.sentence("as soon as a SOUND would come a second time, the TARGET is MISSING");
        for (int ring = 1; ring <= 6; ring++) {
            // sounds 0 .. ring - 1 go round, so one of the rest would never come
            UnitVoices x = read("row a55;", "tree P4(**);");
            for (int sound = 0; sound < ring; sound++) x.other(sound, (sound + 1) % ring);
            if (ring < 6) x.unit(ring, 6, 6, 5, 5, 0);
            due("choice, a ring of " + ring, x.choice(0, NONE), NO);
            due("steps, a ring of " + ring, x.steps(0), NONE);
            due("tried, a ring of " + ring, x.tried(0), ring);
            x.unit(ring - 1, 6, 6, 5, 5, 0);
            due("the last of the ring has one", x.choice(0, NONE), 1);
            due("STEPS to it", x.steps(0), 2 * (ring - 1));
            due("tried", x.tried(0), ring);
        }
        UnitVoices x = read("row a55;");
        x.other(0, 1);
        x.other(1, 2);
        x.other(2, 1);
        due("a ring that it comes into", x.choice(0, NONE), NO);
        due("tried", x.tried(0), 3);
        x.other(2, 2);
        due("a SOUND that is its own OTHER", x.choice(0, NONE), NO);
        due("tried", x.tried(0), 3);
    }

    // ---- 15, 16: steps and tried

    private static void stepsNumbers() {
        Edges.sentence("15: BAD");
        Edges.numbers("steps' k", Edges::rich, 0, 3, (x, k) -> x.steps(k));
        Edges.numbers("steps' k of eight", Edges::filled, 0, 7, (x, k) -> x.steps(k));
        for (int k : new int[] {Edges.LOW, -1, 0, 1, 7, 8, Edges.HIGH}) {
            Edges.refused("steps(" + k + ") without a ROW", Edges::rowless, x -> x.steps(k), BAD, BADS);
        }
    }

    private static void stepsLeastAndMost() {
        Edges.sentence("STEPS: how often it went to a NODE above or to an OTHER");
        for (int questions = 0; questions <= 7; questions++) {
            UnitVoices x = read("row a51;", "tree" + "P9(*".repeat(questions) + "*" + ")".repeat(questions) + ";");
            for (int sound = 0; sound < 5; sound++) x.other(sound, sound + 1);
            x.unit(5, 6, 6, 5, 1, 0);
            due(questions + " QUESTIONS, five SOUNDS without", x.steps(0), 5 * (questions + 1));
            due("tried", x.tried(0), 6);
            x.unit(0, 6, 6, 5, 1, 0);
            due("at the LEAF", x.steps(0), 0);
            due("tried", x.tried(0), 1);
        }
        UnitVoices x = read("row a01;", "tree P8(*P7(*P6(*P5(*P4(*P3(*P2(**)))))));");
        for (int sound = 0; sound < 5; sound++) x.other(sound, sound + 1);
        x.unit(5, 6, 6, 9, 1, 0);
        due("most STEPS", x.steps(0), 5 * 8 + 7);
        x.unit(0, 6, 6, 9, 1, 0);
        due("to the whole TREE of its own SOUND", x.steps(0), 7);
        x.unit(0, 6, 6, 3, 1, 0);
        due("one up", x.steps(0), 1);
    }

    private static void stepsOfAMissingTarget() {
        Edges.sentence("15: NONE: it is MISSING");
        Edges.keeps("steps(0)", ChoiceEdgesTest::missingAtTheEnds, x -> x.steps(0), NONE);
        Edges.keeps("steps(1) beside it", ChoiceEdgesTest::missingAtTheEnds, x -> x.steps(1), 0);
        Edges.keeps("steps(2)", ChoiceEdgesTest::missingAtTheEnds, x -> x.steps(2), NONE);
    }

    private static void triedNumbers() {
        Edges.sentence("16: BAD");
        Edges.numbers("tried's k", Edges::rich, 0, 3, (x, k) -> x.tried(k));
        Edges.numbers("tried's k of eight", Edges::filled, 0, 7, (x, k) -> x.tried(k));
        for (int k : new int[] {Edges.LOW, -1, 0, 1, 7, 8, Edges.HIGH}) {
            Edges.refused("tried(" + k + ") without a ROW", Edges::rowless, x -> x.tried(k), BAD, BADS);
        }
    }

    private static void triedLeastAndMost() {
        Edges.sentence("16: How many SOUNDS were tried, its own one, too (also if it is MISSING)");
        Edges.keeps("tried(0), MISSING", ChoiceEdgesTest::missingAtTheEnds, x -> x.tried(0), 1);
        Edges.keeps("tried(1)", ChoiceEdgesTest::missingAtTheEnds, x -> x.tried(1), 1);
        UnitVoices x = read("row f11;");
        for (int sound = 0; sound < 6; sound++) x.other(sound, (sound + 1) % 6);
        due("all six, MISSING", x.tried(0), 6);
        x.unit(4, 6, 6, 1, 1, 0);
        due("all six, the last has one", x.tried(0), 6);
        x.unit(0, 6, 6, 1, 1, 0);
        due("two", x.tried(0), 2);
        x.unit(5, 6, 6, 1, 1, 0);
        due("its own one", x.tried(0), 1);
    }

    // ---- 17: fit

    private static void fitNumbers() {
        Edges.sentence("17: BAD");
        Edges.numbers("fit's UNIT", Edges::rich, 0, 18, (x, u) -> x.fit(u, 0));
        Edges.numbers("fit's TARGET", Edges::rich, 0, 3, (x, k) -> x.fit(0, k));
        Edges.numbers("fit's UNIT, when full", Edges::filled, 0, 39, (x, u) -> x.fit(u, 0));
        Edges.numbers("fit's TARGET, when full", Edges::filled, 0, 7, (x, k) -> x.fit(0, k));
        Edges.refused("fit(0, 0) without a ROW", Edges::rowless, x -> x.fit(0, 0), BAD, BADS);
        Edges.refused("fit with both wrong", Edges::rich, x -> x.fit(-1, -1), BAD, BADS);
    }

    private static void fitLeastAndMost() {
        Edges.sentence("17: FIT of each KIND, the least and the most");
        // most: PITCH 9 and LENGTH 8 unlike, LEFT and RIGHT as well
        UnitVoices x = read("row a09;");
        x.unit(0, 6, 6, 0, 9, 0);
        x.unit(0, 0, 5, 9, 1, 0);
        x.unit(0, 6, 5, 0, 9, 0);
        x.unit(0, 0, 6, 0, 9, 0);
        int[] most = {17, 21, 26, 42, 13}, oneSide = {0, 2, 0, 4, 0};
        for (int kind = 0; kind <= 4; kind++) {
            x.fitter(kind);
            due("all alike by " + kind, x.fit(0, 0), 0);
            due("all unlike by " + kind, x.fit(1, 0), most[kind]);
            due("RIGHT unlike by " + kind, x.fit(2, 0), oneSide[kind]);
            due("LEFT unlike by " + kind, x.fit(3, 0), oneSide[kind]);
        }
        // the other way round: the TARGET is the higher and the shorter one
        UnitVoices y = read("row a91;");
        y.unit(0, 0, 5, 0, 9, 0);
        for (int kind = 0; kind <= 4; kind++) {
            y.fitter(kind);
            due("all unlike, the other way round, by " + kind, y.fit(0, 0), most[kind]);
        }
    }

    private static void fitCut() {
        Edges.sentence("17: LAX: half (cut) of HIGH's");
        int[] length = {1, 2, 3, 4};
        int[] want = {0, 0, 1, 1};
        for (int i = 0; i < 4; i++) {
            UnitVoices x = read("row a51;");
            x.unit(0, 6, 6, 5, length[i], 0);
            x.fitter(2);
            due("HIGH", x.fit(0, 0), i);
            x.fitter(4);
            due("half of " + i, x.fit(0, 0), want[i]);
        }
        // each FIT is cut by itself, not all of them together
        UnitVoices x = read("row a51a51;");
        x.unit(0, 6, 6, 5, 2, 0);
        x.fitter(4);
        due("two halves of 1", x.about(1), 0);
    }

    private static void fitOfAnyUnit() {
        Edges.sentence("17: FIT of UNIT u for TARGET k, whether it is in its CHOICE or not");
        UnitVoices x = read("row a55b55;", "tree P4(**);");
        x.unit(5, 6, 6, 4, 5, 0);
        due("another SOUND at another LEAF", x.fit(0, 0), 1);
        due("told(1): a TARGET is MISSING, but no CHOICE is asked for", x.told(1), 0);
        Edges.keeps("fit(0, 0), MISSING", ChoiceEdgesTest::missingAtTheEnds, y -> y.fit(0, 0), 2);
        Edges.keeps("fit(2, 2), MISSING", ChoiceEdgesTest::missingAtTheEnds, y -> y.fit(2, 2), 12);
    }

    // ---- 18: joint

    private static void jointNumbers() {
        Edges.sentence("18: BAD");
        Edges.numbers("joint's first UNIT", Edges::rich, 0, 18, (x, u) -> x.joint(u, 0));
        Edges.numbers("joint's second UNIT", Edges::rich, 0, 18, (x, v) -> x.joint(0, v));
        Edges.numbers("joint's first UNIT, when full", Edges::filled, 0, 39, (x, u) -> x.joint(u, 0));
        Edges.numbers("joint's second UNIT, when full", Edges::filled, 0, 39, (x, v) -> x.joint(0, v));
        Edges.refused("joint with both wrong", Edges::rich, x -> x.joint(19, 19), BAD, BADS);
        // no ROW is needed
        Edges.keeps("joint(0, 1) without a ROW", Edges::rowless, x -> x.joint(0, 1), 0);
    }

    private static void jointLeastAndMost() {
        Edges.sentence("18: JOINT: else 3, and by how much PITCH is unlike, 2 more if RIGHT.., 2 if LEFT..");
        UnitVoices x = new UnitVoices();
        x.unit(0, 6, 1, 0, 1, 0);
        x.unit(1, 0, 6, 0, 9, 1);
        x.unit(1, 0, 6, 9, 1, 2);
        x.unit(1, 2, 6, 0, 1, 3);
        x.unit(2, 0, 6, 0, 1, 1);
        x.unit(2, 2, 6, 9, 1, 2);
        due("all alike", x.joint(0, 1), 3);
        due("PITCH unlike", x.joint(0, 2), 3 + 9);
        due("LEFT unlike", x.joint(0, 3), 3 + 2);
        due("RIGHT unlike", x.joint(0, 4), 3 + 2);
        due("all unlike", x.joint(0, 5), 3 + 9 + 2 + 2);
        due("all unlike, the other way", x.joint(5, 0), 3 + 9 + 2 + 2);
        due("silence beside is no SOUND", x.joint(1, 0), 3 + 2 + 2);
    }

    private static void jointFollows() {
        Edges.sentence("18: JOINT: 0, if v FOLLOWS u");
        UnitVoices x = new UnitVoices();
        x.unit(0, 6, 6, 0, 1, 3);
        x.unit(3, 6, 6, 5, 1, 0);
        x.unit(1, 6, 6, 9, 9, 3);
        x.unit(2, 6, 6, 0, 1, 3);
        due("the next one of the TAKE, all else unlike", x.joint(0, 2), 0);
        due("the next number is not what counts", x.joint(0, 1), 3 + 5 + 4);
        due("the other way", x.joint(2, 0), 3 + 9 + 4);
        due("one over", x.joint(0, 3), 3 + 0 + 4);
        due("to itself", x.joint(0, 0), 3 + 0 + 4);
        due("the last one to itself", x.joint(3, 3), 3 + 0 + 4);
        due("from the last one", x.joint(3, 1), 3 + 5 + 4);
    }
}
