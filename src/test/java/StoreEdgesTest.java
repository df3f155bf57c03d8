import java.math.BigInteger;

/** The boundary cases of the store: promises 1 to 7, and the ranges of the terms that they use. */
public final class StoreEdgesTest {
    private static final int NONE = Edges.NONE, BAD = Edges.BAD, NO = Edges.NO, FULL = Edges.FULL;
    private static final int BADS = Edges.BADS, FULLS = Edges.FULLS;

    public static void main(String[] args) {
        newObject();
        newObjectHasNoUnits();
        newObjectHasNoRow();
        objectsAreApart();
        unitNumbers();
        unitsAreFull();
        unitRefusedInOrder();
        recordsNumbers();
        recordsAreFull();
        recordsRefusedInOrder();
        recordsLeftOver();
        recordsEnds();
        follows();
        ofNumbers();
        emptiesNone();
        emptiesAll();
        emptiesKeepsTheRest();
        otherNumbers();
        otherAnswers();
        fitterNumbers();
        fitterAnswers();
        Edges.end("StoreEdgesTest");
    }

    private static void due(String what, long got, long want) {
        Edges.due(what, got, want);
    }

    private static UnitVoices withUnits(int count) {
        UnitVoices x = new UnitVoices();
        for (int u = 0; u < count; u++) x.unit(u % 6, u % 7, (u + 1) % 7, u % 10, u % 9 + 1, u % 4);
        return x;
    }

    // ---- 1: a new object

    private static void newObject() {
        Edges.sentence("1: As told");
        UnitVoices x = new UnitVoices();
        for (int what = 0; what < 7; what++) due("told(" + what + ")", x.told(what), 0);
        due("tree(0), at first a LEAF", x.tree(0), 1);
        due("tree(1), at first a LEAF", x.tree(1), 0);
        due("tree(2), no UNIT comes to it", x.tree(2), 1);
        for (int sound = 0; sound < 6; sound++) due("other(" + sound + "), itself at first", x.other(sound, 0), sound);
        due("THE FITTER's KIND, 0 at first", x.fitter(0), 0);
        due("NONE", UnitVoices.NONE, -1);
        due("BAD", UnitVoices.BAD, -2);
        due("NO", UnitVoices.NO, -3);
        due("FULL", UnitVoices.FULL, -4);
    }

    private static void newObjectHasNoUnits() {
        Edges.sentence("1: no UNITS");
        Edges.refused("of(0, 0)", Edges::fresh, x -> x.of(0, 0), BAD, BADS);
        Edges.refused("leaf(0, 0)", Edges::fresh, x -> x.leaf(0, 0), BAD, BADS);
        Edges.refused("joint(0, 0)", Edges::fresh, x -> x.joint(0, 0), BAD, BADS);
        Edges.refused("fit(0, 0)", Edges::fresh, x -> x.fit(0, 0), BAD, BADS);
        Edges.refused("without(0)", Edges::fresh, x -> x.without(0), BAD, BADS);
        Edges.keeps("empties()", Edges::fresh, x -> x.empties(), 0);
    }

    private static void newObjectHasNoRow() {
        Edges.sentence("1: no ROW");
        Edges.refused("target(0, 0)", Edges::fresh, x -> x.target(0, 0), BAD, BADS);
        Edges.refused("leaf(1, 0)", Edges::fresh, x -> x.leaf(1, 0), BAD, BADS);
        Edges.refused("steps(0)", Edges::fresh, x -> x.steps(0), BAD, BADS);
        Edges.refused("tried(0)", Edges::fresh, x -> x.tried(0), BAD, BADS);
        Edges.refused("cost()", Edges::fresh, x -> x.cost(), NO, Edges.NOES);
        Edges.refused("choice(0, -1)", Edges::fresh, x -> x.choice(0, NONE), NO, Edges.NOES);
        Edges.keeps("clear()", Edges::fresh, x -> x.clear(), 0);
        Edges.keeps("reads()", Edges::fresh, x -> x.reads(), -10);
    }

    private static void objectsAreApart() {
        Edges.sentence("1: a new object is as told, whatever another one is");
        UnitVoices x = Edges.filled(), y = new UnitVoices(), z = new UnitVoices();
        x.told(9);
        due("digest of a new one beside a full one", y.digest(), z.digest());
        y.unit(0, 0, 0, 0, 1, 0);
        due("told(4) of the full one", x.told(4), 40);
        due("told(4) of the third", z.told(4), 0);
    }

    // ---- 2: unit

    private static void unitNumbers() {
        Edges.sentence("2: BAD; SOUNDS 0 .. 5, LEFT and RIGHT 0 .. 6, PITCH 0 .. 9, LENGTH 1 .. 9, TAKE 0 .. 3");
        for (Edges.Make make : new Edges.Make[] {Edges::fresh, Edges::rich}) {
            Edges.numbers("unit's SOUND", make, 0, 5, (x, n) -> x.unit(n, 3, 3, 5, 5, 1));
            Edges.numbers("unit's LEFT", make, 0, 6, (x, n) -> x.unit(2, n, 3, 5, 5, 1));
            Edges.numbers("unit's RIGHT", make, 0, 6, (x, n) -> x.unit(2, 3, n, 5, 5, 1));
            Edges.numbers("unit's PITCH", make, 0, 9, (x, n) -> x.unit(2, 3, 3, n, 5, 1));
            Edges.numbers("unit's LENGTH", make, 1, 9, (x, n) -> x.unit(2, 3, 3, 5, n, 1));
            Edges.numbers("unit's TAKE", make, 0, 3, (x, n) -> x.unit(2, 3, 3, 5, 5, n));
        }
        Edges.refused("unit with all wrong", Edges::rich, x -> x.unit(-1, -1, -1, -1, 0, -1), BAD, BADS);
        int[][] kept = {{0, 0, 0, 0, 1, 0}, {5, 6, 6, 9, 9, 3}};
        UnitVoices x = new UnitVoices();
        for (int u = 0; u < 2; u++) {
            due("unit " + u, x.unit(kept[u][0], kept[u][1], kept[u][2], kept[u][3], kept[u][4], kept[u][5]), u);
            for (int what = 0; what < 6; what++) due("of(" + u + ", " + what + ")", x.of(u, what), kept[u][what]);
        }
    }

    private static void unitsAreFull() {
        Edges.sentence("2: its number (UNITS 0 .. 39); FULL: 40");
        UnitVoices x = new UnitVoices();
        for (int u = 0; u < 40; u++) {
            due("unit number " + u, x.unit(u % 6, 0, 0, 0, 1, 0), u);
            due("told(4)", x.told(4), u + 1);
            due("told(2)", x.told(2), 0);
        }
        due("the last one's SOUND", x.of(39, 0), 39 % 6);
        due("unit number 40", x.unit(0, 0, 0, 0, 1, 0), FULL);
        Edges.refused("unit when full", Edges::filled, y -> y.unit(0, 0, 0, 0, 1, 0), FULL, FULLS);
        Edges.refused("unit when full", Edges::filled, y -> y.unit(5, 6, 6, 9, 9, 3), FULL, FULLS);
        // a refused unit is not the next one of its take
        UnitVoices z = withUnits(40);
        z.unit(0, 0, 0, 0, 1, 3);
        due("what follows the last one of TAKE 3", z.of(39, 6), NONE);
    }

    private static void unitRefusedInOrder() {
        Edges.sentence("2: the first of BAD, FULL");
        Edges.refused("unit, SOUND wrong, when full", Edges::filled, x -> x.unit(6, 0, 0, 0, 1, 0), BAD, BADS);
        Edges.refused("unit, TAKE wrong, when full", Edges::filled, x -> x.unit(0, 0, 0, 0, 1, -1), BAD, BADS);
        Edges.refused("unit, LENGTH wrong, when full", Edges::filled, x -> x.unit(0, 0, 0, 0, 0, 0), BAD, BADS);
    }

    // ---- 3: records

    private static void recordsNumbers() {
        Edges.sentence("3: BAD; n 1 .. 9, SEED 0 .. 999999, a TAKE");
        for (Edges.Make make : new Edges.Make[] {Edges::fresh, Edges::rich}) {
            Edges.numbers("records' SEED", make, 0, 999999, (x, n) -> x.records(n, 2, 1));
            Edges.numbers("records' n", make, 1, 9, (x, n) -> x.records(5, n, 1));
            Edges.numbers("records' TAKE", make, 0, 3, (x, n) -> x.records(5, 2, n));
        }
        for (int n = 1; n <= 9; n++) due("records of " + n, new UnitVoices().records(999999, n, 3), n);
    }

    private static void recordsAreFull() {
        Edges.sentence("3: FULL: they would be above 40 (none comes)");
        for (int n = 1; n <= 9; n++) {
            int count = n;
            due(n + " up to 40", withUnits(40 - n).records(7, n, 2), 40);
            Edges.refused(n + " above 40", () -> withUnits(41 - count), x -> x.records(7, count, 2), FULL, FULLS);
            Edges.refused(n + " when full", Edges::filled, x -> x.records(7, count, 2), FULL, FULLS);
        }
        UnitVoices x = withUnits(32);
        due("nine above 40", x.records(7, 9, 0), FULL);
        due("eight then", x.records(7, 8, 0), 40);
    }

    private static void recordsRefusedInOrder() {
        Edges.sentence("3: the first of BAD, FULL");
        Edges.refused("records, SEED wrong, when full", Edges::filled, x -> x.records(-1, 1, 0), BAD, BADS);
        Edges.refused("records, n 0 when full", Edges::filled, x -> x.records(0, 0, 0), BAD, BADS);
        Edges.refused("records, n 10 when full", Edges::filled, x -> x.records(0, 10, 0), BAD, BADS);
        Edges.refused("records, n most when full", Edges::filled, x -> x.records(0, Edges.HIGH, 0), BAD, BADS);
        Edges.refused("records, TAKE wrong, when full", Edges::filled, x -> x.records(0, 1, 4), BAD, BADS);
    }

    private static void recordsLeftOver() {
        Edges.sentence("3: X becomes X times 1103515245 and 12345, by 2147483648 what is left over");
        for (int seed : new int[] {0, 1, 2, 65535, 65536, 500000, 999998, 999999}) {
            UnitVoices x = new UnitVoices();
            x.records(seed, 9, 3);
            BigInteger big = BigInteger.valueOf(seed);
            int[] sounds = new int[9];
            for (int u = 0; u < 9; u++) {
                big = big.multiply(BigInteger.valueOf(1103515245)).add(BigInteger.valueOf(12345)).mod(BigInteger.TWO.pow(31));
                int left = big.intValueExact();
                sounds[u] = left / 65536 % 6;
                due("SOUND of seed " + seed, x.of(u, 0), sounds[u]);
                due("PITCH of seed " + seed, x.of(u, 3), left / 4096 % 10);
                due("LENGTH of seed " + seed, x.of(u, 4), left / 1024 % 9 + 1);
                due("TAKE of seed " + seed, x.of(u, 5), 3);
            }
            for (int u = 0; u < 9; u++) {
                due("LEFT of seed " + seed, x.of(u, 1), u == 0 ? 6 : sounds[u - 1]);
                due("RIGHT of seed " + seed, x.of(u, 2), u == 8 ? 6 : sounds[u + 1]);
            }
        }
    }

    private static void recordsEnds() {
        Edges.sentence("3: LEFT, RIGHT as they stand (silence at the ends)");
        UnitVoices x = new UnitVoices();
        x.records(7, 1, 0);
        due("LEFT of one alone", x.of(0, 1), 6);
        due("RIGHT of one alone", x.of(0, 2), 6);
        x.records(8, 2, 0);
        due("RIGHT of the older one stays silence", x.of(0, 2), 6);
        due("LEFT of the first of two", x.of(1, 1), 6);
        due("RIGHT of the first of two", x.of(1, 2), x.of(2, 0));
        due("LEFT of the second of two", x.of(2, 1), x.of(1, 0));
        due("RIGHT of the second of two", x.of(2, 2), 6);
        due("they are of one TAKE, so they FOLLOW the older one", x.of(0, 6), 1);
        due("how many there are", x.records(9, 9, 1), 12);
    }

    // ---- 4: of

    private static void follows() {
        Edges.sentence("4: the UNIT that FOLLOWS it (the next one that came of the same TAKE); NONE");
        UnitVoices x = new UnitVoices();
        x.unit(0, 0, 0, 0, 1, 0);
        due("the only one", x.of(0, 6), NONE);
        for (int take = 1; take < 4; take++) x.unit(0, 0, 0, 0, 1, take);
        for (int u = 0; u < 4; u++) due("one of each TAKE: " + u, x.of(u, 6), NONE);
        x.unit(0, 0, 0, 0, 1, 3);
        x.unit(0, 0, 0, 0, 1, 3);
        x.unit(0, 0, 0, 0, 1, 0);
        int[] want = {6, NONE, NONE, 4, 5, NONE, NONE};
        for (int u = 0; u < 7; u++) due("of(" + u + ", 6)", x.of(u, 6), want[u]);
        for (int first = 0; first < 4; first++) {
            for (int second = 0; second < 4; second++) {
                UnitVoices two = new UnitVoices();
                two.unit(0, 0, 0, 0, 1, first);
                two.unit(0, 0, 0, 0, 1, second);
                due("TAKE " + first + " and then " + second, two.of(0, 6), first == second ? 1 : NONE);
                two.empties();
                two.unit(0, 0, 0, 0, 1, second);
                two.unit(0, 0, 0, 0, 1, first);
                due("the other way, behind empties()", two.of(0, 6), first == second ? 1 : NONE);
            }
        }
        UnitVoices y = new UnitVoices();
        y.unit(0, 0, 0, 0, 1, 3);
        for (int u = 1; u < 39; u++) y.unit(0, 0, 0, 0, 1, 2);
        y.unit(0, 0, 0, 0, 1, 3);
        due("the first is followed by the last", y.of(0, 6), 39);
        due("the last one of all", y.of(39, 6), NONE);
        due("the last one of TAKE 2", y.of(38, 6), NONE);
        due("the one ahead of it", y.of(37, 6), 38);
    }

    private static void ofNumbers() {
        Edges.sentence("4: BAD");
        for (int count : new int[] {1, 2, 39, 40}) {
            Edges.numbers("of's UNIT of " + count, () -> withUnits(count), 0, count - 1, (x, n) -> x.of(n, 0));
        }
        Edges.numbers("of's WHAT", Edges::rich, 0, 6, (x, n) -> x.of(0, n));
        Edges.refused("of with both wrong", Edges::rich, x -> x.of(-1, 7), BAD, BADS);
        Edges.refused("of, when none is left", () -> {
            UnitVoices x = Edges.rich();
            x.empties();
            return x;
        }, x -> x.of(0, 0), BAD, BADS);
        Edges.keeps("of(18, 6) of the last one, which is no refusal", Edges::rich, x -> x.of(18, 6), NONE);
    }

    // ---- 5: empties

    private static void emptiesNone() {
        Edges.sentence("5: how many there were: none");
        Edges.keeps("empties() of a new one", Edges::fresh, x -> x.empties(), 0);
        UnitVoices x = Edges.rich();
        due("empties()", x.empties(), 19);
        due("empties() again", x.empties(), 0);
    }

    private static void emptiesAll() {
        Edges.sentence("5: All UNITS go: how many there were: as many as may be");
        UnitVoices x = Edges.filled();
        due("empties()", x.empties(), 40);
        due("told(4)", x.told(4), 0);
        due("told(2)", x.told(2), 0);
        due("of(0, 0)", x.of(0, 0), BAD);
        due("of(39, 0)", x.of(39, 0), BAD);
        due("cost()", x.cost(), NO);
        for (int u = 0; u < 40; u++) due("room again", x.unit(0, 0, 0, 0, 1, u % 4), u);
        due("full again", x.unit(0, 0, 0, 0, 1, 0), FULL);
        UnitVoices y = new UnitVoices();
        y.unit(0, 0, 0, 0, 1, 0);
        y.unit(0, 0, 0, 0, 1, 0);
        y.empties();
        y.unit(0, 0, 0, 0, 1, 1);
        due("nothing FOLLOWS from before", y.of(0, 6), NONE);
        y.unit(0, 0, 0, 0, 1, 0);
        due("nor does an old TAKE go on", y.of(0, 6), NONE);
        y.unit(0, 0, 0, 0, 1, 0);
        due("a new one does", y.of(1, 6), 2);
    }

    private static void emptiesKeepsTheRest() {
        Edges.sentence("5: the ROW, the TREE, OTHERS, THE FITTER stay");
        UnitVoices x = Edges.filled(), y = Edges.filled();
        x.told(-1);
        x.unit(0, 0, 0, 0, 1, 0);
        x.empties();
        int[] want = {1, 0, 1, 120, 0, 8, 1};
        for (int what = 0; what < 7; what++) due("told(" + what + ")", x.told(what), want[what]);
        for (int k = 0; k < 8; k++) {
            for (int what = 0; what < 5; what++) due("target(" + k + ", " + what + ")", x.target(k, what), y.target(k, what));
            due("leaf(1, " + k + ")", x.leaf(1, k), y.leaf(1, k));
        }
        due("tree(0)", x.tree(0), 2);
        due("tree(1)", x.tree(1), 1);
        for (int sound = 0; sound < 6; sound++) due("other(" + sound + ")", x.other(sound, sound), (sound + 1) % 6);
        due("fitter(1)", x.fitter(1), 1);
        due("THE TEXT stays as well", x.reads(), 1);
        due("its TARGET", x.target(0, 0), 2);
    }

    // ---- 6: other

    private static void otherNumbers() {
        Edges.sentence("6: BAD; SOUNDS 0 .. 5, silence has no OTHER and is none");
        for (Edges.Make make : new Edges.Make[] {Edges::fresh, Edges::rich, Edges::filled}) {
            Edges.numbers("other's SOUND", make, 0, 5, (x, n) -> x.other(n, 0));
            Edges.numbers("other's OTHER", make, 0, 5, (x, n) -> x.other(0, n));
        }
        Edges.refused("other with both wrong", Edges::rich, x -> x.other(6, 6), BAD, BADS);
    }

    private static void otherAnswers() {
        Edges.sentence("6: which it had (itself at first)");
        for (int sound = 0; sound < 6; sound++) {
            UnitVoices x = new UnitVoices();
            due("at first", x.other(sound, 5 - sound), sound);
            due("then", x.other(sound, sound), 5 - sound);
            due("itself again", x.other(sound, 0), sound);
            for (int rest = 0; rest < 6; rest++) {
                if (rest != sound) due("the others are as they were", x.other(rest, rest), rest);
            }
        }
    }

    // ---- 7: fitter

    private static void fitterNumbers() {
        Edges.sentence("7: BAD; KIND 0 .. 4");
        for (Edges.Make make : new Edges.Make[] {Edges::fresh, Edges::rich, Edges::filled}) {
            Edges.numbers("fitter's KIND", make, 0, 4, (x, n) -> x.fitter(n));
        }
    }

    private static void fitterAnswers() {
        Edges.sentence("7: what it was (0 at first)");
        UnitVoices x = new UnitVoices();
        int was = 0;
        for (int kind : new int[] {0, 4, 4, 3, 2, 1, 0}) {
            due("fitter(" + kind + ")", x.fitter(kind), was);
            due("told(6)", x.told(6), kind);
            was = kind;
        }
    }
}
