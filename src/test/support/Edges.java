import java.util.ArrayList;
import java.util.List;

/**
 * What the tests of boundary cases share. Each test opens a sentence of the document and works on new
 * objects, so that none gets more than the 512 calls for which the document promises answers.
 */
final class Edges {
    static final int NONE = -1, BAD = -2, NO = -3, FULL = -4;
    static final int LOW = Integer.MIN_VALUE, HIGH = Integer.MAX_VALUE;
    /** What told counts: refused as BAD, NO, FULL. */
    static final int BADS = 0, NOES = 1, FULLS = 2;

    /** Makes an object that is always in the same state. */
    interface Make {
        UnitVoices anew();
    }

    interface Call {
        long on(UnitVoices x);
    }

    interface NumberCall {
        long on(UnitVoices x, int number);
    }

    private static String sentence = "";
    private static int sentences = 0;
    private static int checks = 0;
    private static int wrong = 0;

    private Edges() {
    }

    static void sentence(String words) {
        sentence = words;
        sentences++;
    }

    static void due(String what, long got, long want) {
        checks++;
        if (got == want) return;
        wrong++;
        if (wrong <= 40) System.out.println("[" + sentence + "] " + what + " answered " + got + ", due is " + want);
    }

    static void end(String name) {
        System.out.println(name + ": " + sentences + " sentences, " + checks + " checks, " + wrong + " wrong");
        if (wrong != 0 || checks == 0) System.exit(1);
    }

    // ---- objects in a state

    static int type(UnitVoices x, String words) {
        int bytes = x.told(3);
        for (int i = 0; i < words.length(); i++) bytes = x.type(words.charAt(i));
        return bytes;
    }

    static int reads(UnitVoices x, String words) {
        x.clear();
        type(x, words);
        return x.reads();
    }

    static UnitVoices fresh() {
        return new UnitVoices();
    }

    /** Units, others, a fitter, a tree, a row whose targets all have a choice, and a text that is not read yet. */
    static UnitVoices rich() {
        UnitVoices x = new UnitVoices();
        x.records(7, 9, 0);
        x.records(8, 9, 1);
        x.unit(0, 6, 1, 3, 4, 2);
        x.other(5, 2);
        x.other(3, 0);
        x.fitter(3);
        reads(x, "tree L6(P4(**)R2(**));");
        reads(x, "row a34b52c71d11;");
        x.clear();
        type(x, "row f19e28;");
        return x;
    }

    /** As many units, targets and bytes as may be. */
    static UnitVoices filled() {
        UnitVoices x = new UnitVoices();
        for (int i = 0; i < 4; i++) x.records(100 + i, 9, i);
        for (int i = 0; i < 4; i++) x.unit(i, 6, i, i, 9 - i, 3 - i);
        for (int s = 0; s < 6; s++) x.other(s, (s + 1) % 6);
        x.fitter(1);
        reads(x, "tree P4(**);");
        reads(x, "rowa01b12c23d34e45f56a67b78;");
        x.clear();
        type(x, "row c35;" + " ".repeat(112));
        return x;
    }

    /** Units, but no row. */
    static UnitVoices rowless() {
        UnitVoices x = new UnitVoices();
        x.records(7, 9, 0);
        x.unit(0, 6, 1, 3, 4, 2);
        reads(x, "tree L6(P4(**)R2(**));");
        type(x, " ");
        return x;
    }

    // ---- what can be seen of an object

    static int[] tolds(UnitVoices x) {
        int[] all = new int[7];
        for (int what = 0; what < 7; what++) all[what] = x.told(what);
        return all;
    }

    private static final int LOOKS = 6;

    /** A part of all that can be seen of an object but for how often it refused; each part asks less than 250 times. */
    private static List<Long> look(int part, UnitVoices x) {
        List<Long> seen = new ArrayList<>();
        int units = x.told(4), targets = x.told(5);
        switch (part) {
            case 0: case 1:
                for (int u = 20 * part; u < Math.min(units, 20 * part + 20); u++) {
                    for (int what = 0; what < 7; what++) seen.add((long) x.of(u, what));
                    seen.add((long) x.leaf(0, u));
                }
                break;
            case 2: case 3:
                for (int u = 20 * (part - 2); u < Math.min(units, 20 * (part - 2) + 20); u++) {
                    for (int k = 0; k < targets; k++) seen.add((long) x.fit(u, k));
                }
                break;
            case 4:
                lookAtChains(seen, x, targets);
                break;
            default:
                lookAtWhatChanges(seen, x);
        }
        return seen;
    }

    private static void lookAtChains(List<Long> seen, UnitVoices x, int targets) {
        for (int k = 0; k < targets; k++) {
            for (int what = 0; what < 5; what++) seen.add((long) x.target(k, what));
            for (int j = -1; j < 3; j++) seen.add((long) x.choice(k, j));
            seen.add((long) x.leaf(1, k));
            seen.add((long) x.steps(k));
            seen.add((long) x.tried(k));
            seen.add((long) x.chain(k));
        }
        for (int what = 0; what < 4; what++) seen.add((long) x.about(what));
        for (int what = 0; what < 3; what++) seen.add((long) x.tree(what));
        for (int what = 3; what < 7; what++) seen.add((long) x.told(what));
        for (int what = 0; what < 2; what++) seen.add((long) x.cheapest(what));
        seen.addAll(List.of((long) x.cost(), (long) x.ways(), (long) x.next(), (long) x.dearest()));
    }

    /** Others, fitter and text answer only when they are changed. */
    private static void lookAtWhatChanges(List<Long> seen, UnitVoices x) {
        for (int sound = 0; sound < 6; sound++) seen.add((long) x.other(sound, 0));
        seen.add((long) x.fitter(0));
        seen.add((long) x.reads());
        for (int k = 0; k < x.told(5); k++) {
            for (int what = 0; what < 3; what++) seen.add((long) x.target(k, what));
        }
        for (int what = 0; what < 3; what++) seen.add((long) x.tree(what));
        seen.add((long) x.clear());
        // the next units tell which was the newest one of each take
        for (int take = 0; take < 4; take++) seen.add((long) x.unit(0, 0, 0, 0, 1, take));
        for (int u = 0; u < x.told(4); u++) seen.add((long) x.of(u, 6));
    }

    /** The answer, one more of the count, and nothing else. */
    static void refused(String what, Make make, Call call, long answer, int count) {
        UnitVoices x = make.anew();
        int[] want = tolds(x);
        long digest = x.digest();
        long more = digestOfOneMore(x, count);
        for (int time = 1; time <= 2; time++) {
            due(what + ", time " + time, call.on(x), answer);
            want[count]++;
            sameTolds(what, x, want);
            due("digest behind " + what, x.digest(), digest + time * more);
        }
        sameLooks(what, make, call);
    }

    /** An answer that changes nothing at all, and counts nowhere. */
    static void keeps(String what, Make make, Call call, long answer) {
        UnitVoices x = make.anew();
        int[] want = tolds(x);
        long digest = x.digest();
        for (int time = 1; time <= 2; time++) {
            due(what + ", time " + time, call.on(x), answer);
            sameTolds(what, x, want);
            due("digest behind " + what, x.digest(), digest);
        }
        sameLooks(what, make, call);
    }

    private static void sameTolds(String what, UnitVoices x, int[] want) {
        for (int i = 0; i < 7; i++) due("told(" + i + ") behind " + what, x.told(i), want[i]);
    }

    private static void sameLooks(String what, Make make, Call call) {
        for (int part = 0; part < LOOKS; part++) {
            UnitVoices left = make.anew(), asked = make.anew();
            call.on(asked);
            List<Long> want = look(part, left), got = look(part, asked);
            due("part " + part + " of what is seen behind " + what + " being as before", got.equals(want) ? 1 : 0, 1);
        }
    }

    /** By how much the digest grows with one more of a count: 31 times itself for each value behind the count. */
    private static long digestOfOneMore(UnitVoices x, int count) {
        int units = x.told(4), targets = x.told(5);
        boolean missing = targets == 0;
        for (int k = 0; k < targets; k++) missing |= x.steps(k) == NONE;
        int values = 7 + 6 * units + 6 + 3 * targets + 2 + (missing ? 1 : 1 + targets);
        long more = 1;
        for (int i = count + 1; i < values; i++) more *= 31;
        return more;
    }

    /** The first and the last number are taken, those beside them and the int's ends are refused as BAD. */
    static void numbers(String what, Make make, int least, int most, NumberCall call, long refusal) {
        int[] odd = {LOW, LOW + 1, least - 2, least - 1, most + 1, most + 2, HIGH - 1, HIGH};
        for (int number : odd) {
            if (number < least || number > most) {
                refused(what + " with " + number, make, x -> call.on(x, number), refusal, BADS);
            }
        }
        for (int number : new int[] {least, most}) {
            UnitVoices x = make.anew();
            int bads = x.told(0);
            long got = call.on(x, number);
            due(what + " with " + number + " being taken, not " + got, got == refusal ? 0 : 1, 1);
            due("told(0) behind " + what + " with " + number, x.told(0), bads);
        }
    }

    static void numbers(String what, Make make, int least, int most, NumberCall call) {
        numbers(what, make, least, most, call, BAD);
    }

    /** A text as it can be printed: other signs than those of a page are told by their numbers. */
    static String show(String words) {
        StringBuilder page = new StringBuilder("[");
        for (char c : words.toCharArray()) {
            if (c < 32 || c > 126) page.append('<').append((int) c).append('>');
            else page.append(c);
        }
        return page.append(']').toString();
    }
}
