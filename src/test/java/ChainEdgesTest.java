/** The boundary cases of chains: promises 19 to 28, and which of like CHAINS is THE CHAIN. */
public final class ChainEdgesTest {
    private static final int NONE = Edges.NONE, BAD = Edges.BAD, NO = Edges.NO;
    private static final int BADS = Edges.BADS, NOES = Edges.NOES, FULLS = Edges.FULLS;
    private static final String EIGHT = "rowa01b12c23d34e45f56a67b78";

    public static void main(String[] args) {
        noRow();
        oneMissing();
        missingIsAskedOfEachTarget();
        noUnits();
        costLeastAndMost();
        likeChains();
        chainNumbers();
        chainNumbersWithoutARow();
        chainRefusedInOrder();
        waysLeast();
        waysMost();
        nextOfOne();
        nextOfLike();
        dearestLeast();
        dearestOfEight();
        withoutNumbers();
        withoutRefusedInOrder();
        withoutMissingThen();
        withoutKeepsFollows();
        withoutGoesOnBySteps();
        withoutIsNoChange();
        aboutNumbers();
        aboutRefusedInOrder();
        aboutOneTarget();
        aboutLeastAndMost();
        cheapestNumbers();
        cheapestRefusedInOrder();
        cheapestOfLike();
        cheapestKeepsTheFitter();
        toldNumbers();
        toldCounts();
        toldLeastAndMost();
        digestWithoutAChain();
        digestOfAll();
        digestCountsNothing();
        asksChangeNothing();
        allCallsAtTheEndsOfInt();
        Edges.end("ChainEdgesTest");
    }

    private static void due(String what, long got, long want) {
        Edges.due(what, got, want);
    }

    private static UnitVoices read(String... texts) {
        UnitVoices x = new UnitVoices();
        for (String words : texts) Edges.reads(x, words);
        return x;
    }

    /** Units of sounds a and b, all alike, no two of a take but those of one sound. */
    private static UnitVoices alike(int as, int bs, int cs, String words) {
        UnitVoices x = read(words);
        for (int u = 0; u < as; u++) x.unit(0, 6, 6, 5, 5, 0);
        for (int u = 0; u < bs; u++) x.unit(1, 6, 6, 5, 5, 1);
        for (int u = 0; u < cs; u++) x.unit(2, 6, 6, 5, 5, 2);
        return x;
    }

    private static final String[] CHAIN_CALLS = {"cost()", "ways()", "next()", "dearest()", "chain(0)",
        "about(0)", "about(1)", "about(2)", "about(3)", "cheapest(0)", "cheapest(1)"};

    private static int chainCall(UnitVoices x, int which) {
        switch (which) {
            case 0: return x.cost();
            case 1: return x.ways();
            case 2: return x.next();
            case 3: return x.dearest();
            case 4: return x.chain(0);
            case 5: case 6: case 7: case 8: return x.about(which - 5);
            default: return x.cheapest(which - 9);
        }
    }

    private static void allRefusedAsNo(String when, Edges.Make make) {
        for (int i = 0; i < CHAIN_CALLS.length; i++) {
            int which = i;
            Edges.refused(CHAIN_CALLS[i] + " " + when, make, x -> chainCall(x, which), NO, NOES);
        }
    }

    // ---- NO, for all calls that ask for THE CHAIN

    private static void noRow() {
        Edges.sentence("NO -3 there is no ROW");
        allRefusedAsNo("of a new one", Edges::fresh);
        allRefusedAsNo("without a ROW", Edges::rowless);
        Edges.refused("without(0)", Edges::rowless, x -> x.without(0), NO, NOES);
        for (int k = 0; k < 8; k++) {
            int at = k;
            Edges.refused("chain(" + k + ")", Edges::rowless, x -> x.chain(at), NO, NOES);
        }
    }

    private static void oneMissing() {
        Edges.sentence("NO -3 a TARGET of it is MISSING (told everywhere where a CHAIN is asked for)");
        for (String row : new String[] {"row c55a55b55;", "row a55c55b55;", "row a55b55c55;", "row c55;", "row c55c55;", "row a55b55a55b55a55b55a55c55;"}) {
            Edges.Make make = () -> alike(2, 2, 0, row);
            allRefusedAsNo("of " + row, make);
            Edges.refused("without(0) of " + row, make, x -> x.without(0), NO, NOES);
            UnitVoices x = make.anew();
            x.unit(2, 6, 6, 5, 5, 2);
            due("cost() of " + row + " being told, now that it has one", x.cost() >= 0 ? 1 : 0, 1);
        }
    }

    private static void missingIsAskedOfEachTarget() {
        Edges.sentence("NO: each TARGET of a CHAIN is asked for, also if it is not TARGET k");
        Edges.refused("chain(1), which has a choice", () -> alike(2, 2, 0, "row c55a55b55;"), x -> x.chain(1), NO, NOES);
        Edges.refused("chain(0), which has a choice", () -> alike(2, 2, 0, "row a55b55c55;"), x -> x.chain(0), NO, NOES);
        Edges.refused("chain(2), which is MISSING", () -> alike(2, 2, 0, "row a55b55c55;"), x -> x.chain(2), NO, NOES);
    }

    private static void noUnits() {
        Edges.sentence("NO -3 all TARGETS are MISSING, there being no UNITS");
        Edges.Make emptied = () -> {
            UnitVoices x = Edges.filled();
            x.empties();
            return x;
        };
        allRefusedAsNo("without UNITS", emptied);
        Edges.refused("without(0) without UNITS: BAD is first", emptied, x -> x.without(0), BAD, BADS);
    }

    // ---- 19, 20: cost and chain

    private static void costLeastAndMost() {
        Edges.sentence("19: What THE CHAIN costs");
        due("nothing", alike(1, 0, 0, "row a55;").cost(), 0);
        due("nothing, by followers", alike(8, 0, 0, "row a55a55a55a55a55a55a55a55;").cost(), 0);
        due("seven are one too few to follow", alike(7, 0, 0, "row a55a55a55a55a55a55a55a55;").cost(), 7);
        // most: STRICT, each FIT 42, each JOINT 16
        UnitVoices x = read("row a09b91a09b91a09b91a09b91;");
        x.unit(0, 5, 5, 9, 1, 0);
        x.unit(1, 5, 5, 0, 9, 1);
        x.fitter(3);
        due("the dearest only CHAIN", x.cost(), 8 * 42 + 7 * 16);
        due("dearest() of it", x.dearest(), 8 * 42 + 7 * 16);
        due("next() of it", x.next(), NONE);
    }

    private static void likeChains() {
        Edges.sentence("THE CHAIN: of like ones the first one by UNITS (the first one's number least, then the second's, and so on)");
        UnitVoices x = alike(3, 3, 3, "row c55b55a55;");
        int[] want = {6, 3, 0};
        for (int k = 0; k < 3; k++) due("all alike: chain(" + k + ")", x.chain(k), want[k]);
        // 0 then 3 costs as much as 1 then 2: the first UNIT decides, though the second is a later one
        UnitVoices y = read("row a55b55;");
        y.unit(0, 6, 6, 5, 5, 0);
        y.unit(0, 6, 6, 5, 5, 1);
        y.unit(1, 6, 6, 5, 5, 1);
        y.unit(1, 6, 6, 5, 5, 0);
        due("like ones", y.ways(), 2);
        due("the first one's number", y.chain(0), 0);
        due("the second's", y.chain(1), 3);
        // a cheaper one goes ahead of a first one
        UnitVoices z = read("row a55b55;");
        z.unit(0, 6, 6, 5, 5, 0);
        z.unit(0, 6, 6, 5, 5, 1);
        z.unit(1, 6, 6, 5, 5, 1);
        due("the cheapest one", z.chain(0), 1);
        // like ones that part at the last TARGET alone
        UnitVoices w = read("row a55b55c55;");
        w.unit(2, 6, 6, 5, 5, 3);
        w.unit(2, 6, 6, 5, 5, 2);
        w.unit(1, 6, 6, 5, 5, 1);
        w.unit(0, 6, 6, 5, 5, 0);
        int[] parts = {3, 2, 0};
        for (int k = 0; k < 3; k++) due("the last decides: chain(" + k + ")", w.chain(k), parts[k]);
        due("like ones", w.ways(), 2);
        // a dear first step may be made good later: 0-2-5 and 1-3-4 cost 7 each, 0 is first
        UnitVoices v = read("row a55b55c55;");
        v.unit(0, 6, 6, 5, 5, 0);
        v.unit(0, 6, 6, 5, 5, 1);
        v.unit(1, 6, 6, 5, 5, 2);
        v.unit(1, 6, 6, 5, 5, 1);
        v.unit(2, 6, 6, 5, 5, 3);
        v.unit(2, 6, 6, 5, 5, 2);
        int[] late = {0, 2, 5};
        for (int k = 0; k < 3; k++) due("made good later: chain(" + k + ")", v.chain(k), late[k]);
    }

    private static void chainNumbers() {
        Edges.sentence("20: BAD: as many as there are TARGETS or more, if there are any");
        for (int n = 1; n <= 8; n++) {
            int count = n;
            Edges.numbers("chain's k of " + n, () -> {
                UnitVoices x = read(EIGHT.substring(0, 3 + 3 * count) + ";");
                for (int sound = 0; sound < 6; sound++) x.unit(sound, 6, 6, 5, 5, 0);
                return x;
            }, 0, n - 1, (x, k) -> x.chain(k));
        }
        Edges.refused("chain(7) of four", Edges::rich, x -> x.chain(7), BAD, BADS);
        Edges.refused("chain(4) of four", Edges::rich, x -> x.chain(4), BAD, BADS);
    }

    private static void chainNumbersWithoutARow() {
        Edges.sentence("20: BAD: k not 0 .. 7");
        Edges.numbers("chain's k without a ROW", Edges::rowless, 0, 7, (x, k) -> x.chain(k));
        Edges.numbers("chain's k of a new one", Edges::fresh, 0, 7, (x, k) -> x.chain(k));
    }

    private static void chainRefusedInOrder() {
        Edges.sentence("20: the first of BAD, NO");
        Edges.Make missing = () -> alike(2, 2, 0, "row a55b55c55;");
        Edges.numbers("chain's k, one MISSING", missing, 0, 2, (x, k) -> x.chain(k));
        Edges.refused("chain(8) without a ROW", Edges::rowless, x -> x.chain(8), BAD, BADS);
    }

    // ---- 21: ways

    private static void waysLeast() {
        Edges.sentence("21: How many CHAINS cost as little: one at least");
        due("one UNIT", alike(1, 0, 0, "row a55;").ways(), 1);
        due("one UNIT for all", alike(1, 0, 0, "row a55a55a55a55a55a55a55a55;").ways(), 1);
        due("two UNITS for one TARGET", alike(2, 0, 0, "row a55;").ways(), 2);
        due("forty UNITS for one TARGET", alike(40, 0, 0, "row f55;").ways(), NO);
        due("forty UNITS for one TARGET", alike(40, 0, 0, "row a55;").ways(), 40);
        UnitVoices x = alike(3, 0, 0, "row a55;");
        x.unit(0, 6, 6, 5, 4, 0);
        due("a dearer one does not count", x.ways(), 3);
    }

    private static void waysMost() {
        Edges.sentence("21: 1000000000 at most");
        String row = "row a55b55a55b55a55b55a55c55;";
        due("25 25 25 25 8 8 8 times 4", alike(25, 8, 4, row).ways(), 800000000);
        due("25 25 25 25 8 8 8 times 5, just as many", alike(25, 8, 5, row).ways(), 1000000000);
        due("25 25 25 25 8 8 8 times 6", alike(25, 8, 6, row).ways(), 1000000000);
        due("27 27 27 27 11 11 11 times 1", alike(27, 11, 1, row).ways(), 27 * 27 * 27 * 27 * 1331);
        due("26 26 26 26 13 13 13 times 1, just above", alike(26, 13, 1, row).ways(), 1000000000);
        due("20 eight times, above an int and a long's half", alike(20, 20, 0, "row a55b55a55b55a55b55a55b55;").ways(), 1000000000);
        due("its cost is told all the same", alike(20, 20, 0, "row a55b55a55b55a55b55a55b55;").cost(), 49);
        due("20 seven times", alike(20, 20, 0, "row a55b55a55b55a55b55a55;").ways(), 1000000000);
        due("20 six times", alike(20, 20, 0, "row a55b55a55b55a55b55;").ways(), 64000000);
        Edges.keeps("ways() at most", () -> alike(20, 20, 0, "row a55b55a55b55a55b55a55b55;"), x -> x.ways(), 1000000000);
    }

    // ---- 22, 23: next and dearest

    private static void nextOfOne() {
        Edges.sentence("22: NONE: there is but one");
        Edges.keeps("next() of one UNIT", () -> alike(1, 0, 0, "row a55;"), x -> x.next(), NONE);
        Edges.keeps("next() of one UNIT eight times", () -> alike(1, 0, 0, "row a55a55a55a55a55a55a55a55;"), x -> x.next(), NONE);
        Edges.keeps("next() of one for each", () -> alike(1, 1, 1, "row a55b55c55;"), x -> x.next(), NONE);
        Edges.keeps("next() with UNITS that no TARGET has", () -> alike(1, 0, 9, "row a55a55;"), x -> x.next(), NONE);
        UnitVoices x = alike(1, 1, 1, "row a55b55c55;");
        x.unit(2, 6, 6, 5, 1, 3);
        due("one more at the last TARGET", x.next(), 14 + 4);
        UnitVoices y = alike(1, 1, 1, "row a55b55c55;");
        y.unit(0, 6, 6, 5, 9, 3);
        due("one more at the first TARGET", y.next(), 14 + 4);
    }

    private static void nextOfLike() {
        Edges.sentence("22: What the cheapest CHAIN costs that is not THE CHAIN");
        UnitVoices x = alike(2, 0, 0, "row a55;");
        due("of two like ones", x.next(), 0);
        UnitVoices y = alike(1, 0, 0, "row a55;");
        y.unit(0, 6, 6, 5, 6, 3);
        y.unit(0, 6, 6, 5, 8, 3);
        due("of three unlike ones", y.next(), 1);
        due("cost()", y.cost(), 0);
        due("dearest()", y.dearest(), 3);
        UnitVoices z = read("row a55;");
        z.unit(0, 6, 6, 5, 8, 3);
        z.unit(0, 6, 6, 5, 6, 3);
        z.unit(0, 6, 6, 5, 5, 3);
        due("the other way round", z.next(), 1);
        // the second best goes along with THE CHAIN at its first TARGET, not at its second
        UnitVoices w = alike(1, 1, 0, "row a55b55;");
        w.unit(0, 6, 6, 5, 9, 2);
        w.unit(1, 6, 6, 5, 7, 3);
        due("the second best of four", w.next(), 7 + 2);
    }

    private static void dearestLeast() {
        Edges.sentence("23: What the dearest CHAIN costs: of but one, what it costs");
        for (String row : new String[] {"row a55;", "row a55a55;", "row a91a19;"}) {
            UnitVoices x = alike(1, 0, 0, row);
            due("of " + row, x.dearest(), x.cost());
        }
        due("nothing", alike(1, 0, 0, "row a55;").dearest(), 0);
        due("all alike", alike(40, 0, 0, "row a55;").dearest(), 0);
        due("followers are not dear", alike(2, 0, 0, "row a55a55;").dearest(), 7);
    }

    private static void dearestOfEight() {
        Edges.sentence("23: What the dearest CHAIN costs: of eight TARGETS");
        UnitVoices x = read("row a01a01a01a01a01a01a01a01;");
        x.unit(0, 6, 6, 0, 1, 0);
        x.unit(0, 6, 6, 9, 9, 1);
        // all of unit 1: FITS 17, JOINTS 7; four of each by turns, ending and beginning with unit 1, can not be had
        int all = 8 * 17 + 7 * 7, turns = 4 * 17 + 7 * (7 + 9), most = 0;
        // by a count of the places where it goes over: each gives 9 more, each unit 0 takes 17
        for (int chain = 0; chain < 256; chain++) {
            int price = 17 * Integer.bitCount(chain) + 49 + 9 * Integer.bitCount((chain ^ (chain >> 1)) & 127);
            most = Math.max(most, price);
        }
        due("by trying all", x.dearest(), most);
        due("not less than these", Math.max(all, turns) <= most ? 1 : 0, 1);
        due("cost()", x.cost(), 49);
    }

    // ---- 24: without

    private static void withoutNumbers() {
        Edges.sentence("24: BAD");
        Edges.numbers("without's UNIT", Edges::rich, 0, 18, (x, u) -> x.without(u));
        Edges.numbers("without's UNIT, when full", Edges::filled, 0, 39, (x, u) -> x.without(u));
    }

    private static void withoutRefusedInOrder() {
        Edges.sentence("24: the first of BAD, NO");
        Edges.numbers("without's UNIT without a ROW", Edges::rowless, 0, 9, (x, u) -> x.without(u));
        Edges.numbers("without's UNIT, one MISSING", () -> alike(2, 2, 0, "row a55c55;"), 0, 3, (x, u) -> x.without(u));
        Edges.refused("without(0) of a new one", Edges::fresh, x -> x.without(0), BAD, BADS);
    }

    private static void withoutMissingThen() {
        Edges.sentence("24: NO: also if a TARGET is MISSING then");
        Edges.refused("without the only one", () -> alike(1, 0, 0, "row a55;"), x -> x.without(0), NO, NOES);
        Edges.refused("without the only b", () -> alike(3, 1, 0, "row a55b55a55;"), x -> x.without(3), NO, NOES);
        Edges.keeps("without an a", () -> alike(3, 1, 0, "row a55b55a55;"), x -> x.without(0), 14);
        Edges.refused("without the only one, its OTHER has none", () -> {
            UnitVoices x = alike(1, 0, 3, "row a55;");
            x.other(0, 1);
            x.other(1, 0);
            return x;
        }, x -> x.without(0), NO, NOES);
        Edges.keeps("cost() with it", () -> alike(1, 0, 0, "row a55;"), x -> x.cost(), 0);
    }

    private static void withoutKeepsFollows() {
        Edges.sentence("24: FOLLOWS as it is");
        due("the third does not follow the first then", alike(3, 0, 0, "row a55a55;").without(1), 7);
        due("the first two do", alike(3, 0, 0, "row a55a55;").without(2), 0);
        due("the last two do", alike(3, 0, 0, "row a55a55;").without(0), 0);
        due("eight of nine, the last one away", alike(9, 0, 0, "row a55a55a55a55a55a55a55a55;").without(8), 0);
        due("eight of nine, the one in the middle away", alike(9, 0, 0, "row a55a55a55a55a55a55a55a55;").without(4), 7);
        UnitVoices x = alike(3, 0, 0, "row a55a55;");
        x.without(1);
        due("and it stays so", x.of(0, 6), 1);
    }

    private static void withoutGoesOnBySteps() {
        Edges.sentence("24: the CHOICES without it, going on by STEPS where it was alone");
        UnitVoices x = read("row a91;", "tree P4(P8(**)*);");
        x.unit(0, 6, 6, 9, 1, 0);
        x.unit(0, 6, 6, 7, 1, 0);
        x.unit(0, 6, 6, 8, 5, 0);
        x.unit(0, 6, 6, 4, 1, 0);
        due("to the NODE above", x.without(0), 2);
        due("one that is not in the CHOICE", x.without(1), 0);
        due("STEPS are as they were", x.steps(0), 0);
        UnitVoices y = read("row a91;", "tree P4(P8(**)*);");
        y.unit(0, 6, 6, 9, 1, 0);
        y.unit(0, 6, 6, 4, 1, 0);
        due("to the whole TREE", y.without(0), 5);
        UnitVoices z = read("row a91;", "tree P4(P8(**)*);");
        z.unit(0, 6, 6, 9, 1, 0);
        z.unit(3, 6, 6, 9, 4, 0);
        z.unit(3, 6, 6, 8, 1, 0);
        z.other(0, 3);
        due("to the OTHER, at its LEAF", z.without(0), 3);
        UnitVoices w = alike(2, 0, 0, "row a55;");
        w.other(0, 1);
        w.unit(1, 6, 6, 5, 5, 3);
        due("where it was not alone it stays there", w.without(0), 0);
        UnitVoices v = read("row a91;", "tree P4(**);");
        v.unit(0, 6, 6, 9, 9, 0);
        v.unit(0, 6, 6, 8, 8, 0);
        v.unit(0, 6, 6, 4, 1, 0);
        due("not alone at the LEAF, so no STEP to a cheaper one", v.without(1), 8);
    }

    private static void withoutIsNoChange() {
        Edges.sentence("24: were UNIT u not there: it is there still");
        UnitVoices model = Edges.rich();
        for (int u = 0; u < 19; u++) {
            int at = u;
            UnitVoices x = Edges.rich();
            long answer = x.without(u);
            if (answer == NO) Edges.refused("without(" + u + ")", Edges::rich, y -> y.without(at), NO, NOES);
            else Edges.keeps("without(" + u + ")", Edges::rich, y -> y.without(at), answer);
        }
        // what is not in THE CHAIN and not alone in a CHOICE costs nothing when it goes
        for (int u = 0; u < 19; u++) {
            boolean used = false;
            for (int k = 0; k < 4; k++) used |= model.chain(k) == u;
            if (!used) due("without(" + u + "), which is not in THE CHAIN", model.without(u), model.cost());
        }
    }

    // ---- 25: about

    private static void aboutNumbers() {
        Edges.sentence("25: BAD");
        Edges.numbers("about's WHAT", Edges::rich, 0, 3, (x, n) -> x.about(n));
    }

    private static void aboutRefusedInOrder() {
        Edges.sentence("25: the first of BAD, NO");
        Edges.numbers("about's WHAT without a ROW", Edges::rowless, 0, 3, (x, n) -> x.about(n));
        Edges.numbers("about's WHAT, one MISSING", () -> alike(2, 2, 0, "row a55c55;"), 0, 3, (x, n) -> x.about(n));
    }

    private static void aboutOneTarget() {
        Edges.sentence("25: the dearest JOINT (3; one TARGET: 0)");
        int[] want = {0, 4, 0, 0};
        for (int what = 0; what < 4; what++) {
            int at = what;
            Edges.keeps("about(" + what + ") of one TARGET", () -> alike(5, 0, 0, "row a59;"), x -> x.about(at), want[at]);
        }
    }

    private static void aboutLeastAndMost() {
        Edges.sentence("25: How many JOINTS are of UNITS that FOLLOW (0), FITS (1), JOINTS (2), the dearest JOINT (3)");
        int[] follow = {7, 0, 0, 0}, one = {0, 0, 49, 7}, some = {6, 0, 7, 7};
        UnitVoices x = alike(8, 0, 0, "row a55a55a55a55a55a55a55a55;");
        UnitVoices y = alike(1, 0, 0, "row a55a55a55a55a55a55a55a55;");
        UnitVoices z = alike(7, 0, 0, "row a55a55a55a55a55a55a55a55;");
        for (int what = 0; what < 4; what++) {
            due("about(" + what + "), all follow", x.about(what), follow[what]);
            due("about(" + what + "), none follows", y.about(what), one[what]);
            due("about(" + what + "), all but one follow", z.about(what), some[what]);
        }
        // two unlike JOINTS, the dearer one first
        UnitVoices w = read("row a95b55c45;");
        w.unit(0, 6, 6, 9, 5, 0);
        w.unit(1, 6, 6, 5, 5, 1);
        w.unit(2, 6, 6, 4, 5, 2);
        int[] unlike = {0, 0, 11 + 8, 11};
        for (int what = 0; what < 4; what++) due("about(" + what + "), unlike", w.about(what), unlike[what]);
        Edges.reads(w, "row c45b55a95;");
        for (int what = 0; what < 4; what++) due("about(" + what + "), the other way", w.about(what), unlike[what]);
    }

    // ---- 26: cheapest

    private static void cheapestNumbers() {
        Edges.sentence("26: BAD");
        Edges.numbers("cheapest's WHAT", Edges::rich, 0, 1, (x, n) -> x.cheapest(n));
    }

    private static void cheapestRefusedInOrder() {
        Edges.sentence("26: the first of BAD, NO");
        Edges.numbers("cheapest's WHAT without a ROW", Edges::rowless, 0, 1, (x, n) -> x.cheapest(n));
        Edges.numbers("cheapest's WHAT, one MISSING", () -> alike(2, 2, 0, "row a55c55;"), 0, 1, (x, n) -> x.cheapest(n));
    }

    private static void cheapestOfLike() {
        Edges.sentence("26: of like ones the least");
        for (int kind = 0; kind <= 4; kind++) {
            UnitVoices x = alike(1, 0, 0, "row a55;");
            x.fitter(kind);
            due("all five cost 0: which", x.cheapest(0), 0);
            due("all five cost 0: how much", x.cheapest(1), 0);
            // PITCH 2 unlike: PLAIN 2, HIGH 4, LAX 2
            Edges.reads(x, "row a75;");
            due("PLAIN as LAX: which", x.cheapest(0), 0);
            due("PLAIN as LAX: how much", x.cheapest(1), 2);
            // LENGTH 1 unlike: PLAIN 1, LAX 0
            Edges.reads(x, "row a56;");
            due("LAX alone: which", x.cheapest(0), 4);
            due("LAX alone: how much", x.cheapest(1), 0);
        }
    }

    private static void cheapestKeepsTheFitter() {
        Edges.sentence("26: which (0), how much (1): THE FITTER stays");
        for (int kind = 0; kind <= 4; kind++) {
            int at = kind;
            Edges.Make make = () -> {
                UnitVoices x = alike(2, 2, 0, "row a56b75;");
                x.fitter(at);
                return x;
            };
            Edges.keeps("cheapest(0)", make, x -> x.cheapest(0), 4);
            Edges.keeps("cheapest(1)", make, x -> x.cheapest(1), 0 + 2 + 7);
        }
    }

    // ---- 27: told

    private static void toldNumbers() {
        Edges.sentence("27: BAD");
        for (Edges.Make make : new Edges.Make[] {Edges::fresh, Edges::rich, Edges::filled}) {
            Edges.numbers("told's WHAT", make, 0, 6, (x, n) -> x.told(n));
        }
    }

    private static void toldCounts() {
        Edges.sentence("27: How often refused: BAD (0), NO (1), FULL (2)");
        UnitVoices x = Edges.filled();
        x.empties();
        for (int i = 1; i <= 30; i++) {
            x.fitter(5);
            due("told(0)", x.told(0), i);
            x.cost();
            due("told(1)", x.told(1), i);
            x.type(0);
            due("told(2)", x.told(2), i);
        }
        x.choice(8, 0);
        due("told(0) behind the -10 of choice", x.told(0), 31);
        x.told(7);
        due("told(0) behind told's own", x.told(0), 32);
        x.reads();
        due("told(0) behind reads", x.told(0), 32);
        Edges.refused("type when full", Edges::filled, y -> y.type(0), Edges.FULL, FULLS);
    }

    private static void toldLeastAndMost() {
        Edges.sentence("27: bytes of THE TEXT (3), UNITS (4), TARGETS (5), THE FITTER's KIND (6)");
        UnitVoices x = Edges.filled(), y = new UnitVoices();
        int[] most = {120, 40, 8, 4};
        x.fitter(4);
        for (int what = 3; what < 7; what++) {
            due("told(" + what + ") of a full one", x.told(what), most[what - 3]);
            due("told(" + what + ") of a new one", y.told(what), 0);
        }
    }

    // ---- 28: digest

    private static long fold(long... values) {
        long h = 1987;
        for (long v : values) h = 31 * h + v;
        return h;
    }

    private static void digestWithoutAChain() {
        Edges.sentence("28: -1 alone: none can be");
        due("of a new one", new UnitVoices().digest(), fold(0, 0, 0, 0, 0, 0, 0, 0, 1, 2, 3, 4, 5, 1, 0, -1));
        UnitVoices x = read("row a01f99;");
        due("a ROW without UNITS", x.digest(), fold(0, 0, 0, 11, 0, 2, 0, 0, 1, 2, 3, 4, 5, 0, 0, 1, 5, 9, 9, 1, 0, -1));
        x.unit(0, 6, 6, 0, 1, 3);
        due("the second TARGET is MISSING", x.digest(),
            fold(0, 0, 0, 11, 1, 2, 0, 0, 6, 6, 0, 1, 3, 0, 1, 2, 3, 4, 5, 0, 0, 1, 5, 9, 9, 1, 0, -1));
        UnitVoices y = new UnitVoices();
        y.unit(5, 0, 1, 9, 9, 0);
        due("UNITS without a ROW", y.digest(), fold(0, 0, 0, 0, 1, 0, 0, 5, 0, 1, 9, 9, 0, 0, 1, 2, 3, 4, 5, 1, 0, -1));
    }

    private static void digestOfAll() {
        Edges.sentence("28: each v: told(0) to told(6); of UNITS of(0) to of(5); OTHERS; TARGETS; tree(0), tree(1); cost, UNITS");
        for (Edges.Make make : new Edges.Make[] {Edges::rich, Edges::filled}) {
            UnitVoices x = make.anew();
            x.told(9);
            int units = x.told(4), targets = x.told(5), at = 0;
            long[] v = new long[7 + 6 * units + 6 + 3 * targets + 2 + 1 + targets];
            for (int what = 0; what < 7; what++) v[at++] = x.told(what);
            for (int u = 0; u < units; u++) for (int what = 0; what < 6; what++) v[at++] = x.of(u, what);
            for (int sound = 0; sound < 6; sound++) {
                int other = x.other(sound, 0);
                x.other(sound, other);
                v[at++] = other;
            }
            for (int k = 0; k < targets; k++) for (int what = 0; what < 3; what++) v[at++] = x.target(k, what);
            v[at++] = x.tree(0);
            v[at++] = x.tree(1);
            v[at++] = x.cost();
            for (int k = 0; k < targets; k++) v[at++] = x.chain(k);
            due("as many values as told", at, v.length);
            due("digest()", x.digest(), fold(v));
        }
    }

    private static void digestCountsNothing() {
        Edges.sentence("28: digest is never refused");
        for (Edges.Make make : new Edges.Make[] {Edges::fresh, Edges::rowless, Edges::rich, Edges::filled, () -> alike(2, 2, 0, "row a55c55;")}) {
            Edges.keeps("digest()", make, x -> x.digest(), make.anew().digest());
        }
    }

    // ---- all calls

    private static void asksChangeNothing() {
        Edges.sentence("19 to 26: an answer that is no refusal changes nothing and counts nowhere");
        for (int i = 0; i < CHAIN_CALLS.length; i++) {
            int which = i;
            for (Edges.Make make : new Edges.Make[] {Edges::rich, Edges::filled}) {
                Edges.keeps(CHAIN_CALLS[i], make, x -> chainCall(x, which), chainCall(make.anew(), which));
            }
        }
    }

    /** No call may throw: each one with numbers about the ends of int and of all ranges, in each state. */
    private static void allCallsAtTheEndsOfInt() {
        Edges.sentence("no call throws, whatever its numbers are");
        int[] ends = {Edges.LOW, Edges.LOW + 1, -129, -41, -11, -10, -2, -1, 0, 1, 2, 3, 4, 5, 6, 7, 8, 9, 10, 18, 19,
            39, 40, 41, 119, 120, 127, 128, 999999, 1000000, Edges.HIGH - 1, Edges.HIGH};
        Edges.Make[] makes = {Edges::fresh, Edges::rowless, Edges::rich, Edges::filled, () -> alike(2, 2, 0, "row a55c55;")};
        for (Edges.Make make : makes) {
            for (int a : ends) {
                for (int b : ends) {
                    UnitVoices x = make.anew();
                    askTwo(x, a, b);
                    askOne(x, a);
                    int units = x.told(4), targets = x.told(5);
                    due("UNITS being 0 .. 40", units >= 0 && units <= 40 ? 1 : 0, 1);
                    due("TARGETS being 0 .. 8", targets >= 0 && targets <= 8 ? 1 : 0, 1);
                }
            }
        }
    }

    private static void askTwo(UnitVoices x, int a, int b) {
        x.of(a, b);
        x.target(a, b);
        x.leaf(a, b);
        x.choice(a, b);
        x.fit(a, b);
        x.joint(a, b);
        x.other(a, b);
        x.records(a, b, 0);
        x.unit(a, b, 0, 0, 1, 0);
        x.unit(0, 0, a, b, 1, 0);
        x.unit(0, 0, 0, 0, a, b);
    }

    private static void askOne(UnitVoices x, int a) {
        x.steps(a);
        x.tried(a);
        x.chain(a);
        x.without(a);
        x.about(a);
        x.cheapest(a);
        x.tree(a);
        x.told(a);
        x.type(a);
        x.fitter(a);
        x.cost();
        x.digest();
    }
}
