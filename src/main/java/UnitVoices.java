/**
 * A voice from recorded pieces: units of sounds, a wanted row of sounds, a tree of questions that
 * chooses units for each target, and the cheapest chain of chosen units.
 */
public final class UnitVoices {
    public static final int NONE = -1, BAD = -2, NO = -3, FULL = -4;

    private static final int NOT_SO_MANY = -5;
    private static final int BAD_CHOICE = -10;
    private static final int FAULT_BASE = -10;

    private static final int SOUNDS = 6;
    private static final int SILENCE = 6;
    private static final int MOST_PITCH = 9;
    private static final int MOST_LENGTH = 9;
    private static final int TAKES = 4;
    private static final int KINDS = 5;
    private static final int MOST_UNITS = 40;
    private static final int MOST_TARGETS = 8;
    private static final int MOST_BYTES = 120;
    private static final int MOST_QUESTIONS = 7;
    private static final int MOST_RECORDS = 9;
    private static final int MOST_SEED = 999999;
    private static final int MOST_WAYS = 1000000000;
    /** Above every price of a chain, and far enough from the int's end to be added to. */
    private static final int FAR = 1000000;

    private final Units units;
    private final Row row;
    private final Tree tree;
    private final Text text;
    private final int[] others;
    private final Chooser chooser;
    private final Prices prices;
    private final Chains chains;
    private int kind;
    private int bads;
    private int noes;
    private int fulls;

    public UnitVoices() {
        units = new Units();
        row = new Row();
        tree = new Tree();
        text = new Text();
        others = new int[SOUNDS];
        for (int sound = 0; sound < SOUNDS; sound++) {
            others[sound] = sound;
        }
        chooser = new Chooser(units, row, tree, others);
        prices = new Prices(units, row);
        chains = new Chains(row, chooser, prices);
    }

    // ---- the store

    public int unit(int sound, int left, int right, int pitch, int length, int take) {
        if (!isSound(sound) || !within(left, 0, SILENCE) || !within(right, 0, SILENCE)
                || !within(pitch, 0, MOST_PITCH) || !within(length, 1, MOST_LENGTH) || !isTake(take)) {
            return bad();
        }
        if (units.count >= MOST_UNITS) {
            return full();
        }
        return units.add(sound, left, right, pitch, length, take);
    }

    public int records(int seed, int n, int take) {
        if (!within(seed, 0, MOST_SEED) || !within(n, 1, MOST_RECORDS) || !isTake(take)) {
            return bad();
        }
        if (units.count + n > MOST_UNITS) {
            return full();
        }
        long x = seed;
        int left = SILENCE;
        for (int i = 0; i < n; i++) {
            x = (x * 1103515245L + 12345L) % 2147483648L;
            int sound = (int) (x / 65536L % 6L);
            int pitch = (int) (x / 4096L % 10L);
            int length = (int) (x / 1024L % 9L) + 1;
            int u = units.add(sound, left, SILENCE, pitch, length, take);
            if (i > 0) {
                // the one before was kept with silence, as its right neighbour is known only now
                units.putRight(u - 1, sound);
            }
            left = sound;
        }
        return units.count;
    }

    public int of(int u, int what) {
        if (!isUnit(u)) {
            return bad();
        }
        switch (what) {
            case 0: return units.sound[u];
            case 1: return units.left[u];
            case 2: return units.right[u];
            case 3: return units.pitch[u];
            case 4: return units.length[u];
            case 5: return units.take[u];
            case 6: return units.follower[u];
            default: return bad();
        }
    }

    public int empties() {
        int were = units.count;
        units.removeAll();
        return were;
    }

    public int other(int sound, int by) {
        if (!isSound(sound) || !isSound(by)) {
            return bad();
        }
        int was = others[sound];
        others[sound] = by;
        return was;
    }

    public int fitter(int kind) {
        if (!within(kind, 0, KINDS - 1)) {
            return bad();
        }
        int was = this.kind;
        this.kind = kind;
        return was;
    }

    // ---- the text

    public int type(int c) {
        if (!within(c, 0, 127)) {
            return bad();
        }
        if (text.count >= MOST_BYTES) {
            return full();
        }
        text.add(c);
        return text.count;
    }

    public int clear() {
        int had = text.count;
        text.count = 0;
        return had;
    }

    public int reads() {
        int fault = text.read();
        if (fault != NONE) {
            return FAULT_BASE - fault;
        }
        if (text.tellsRow) {
            row.become(text.row);
            return row.count;
        }
        tree.become(text.tree);
        return tree.leaves;
    }

    public int target(int k, int what) {
        if (!isTarget(k)) {
            return bad();
        }
        switch (what) {
            case 0: return row.sound[k];
            case 1: return row.pitch[k];
            case 2: return row.length[k];
            case 3: return row.leftOf(k);
            case 4: return row.rightOf(k);
            default: return bad();
        }
    }

    public int tree(int what) {
        switch (what) {
            case 0: return tree.leaves;
            case 1: return tree.height;
            case 2: return emptyLeaves();
            default: return bad();
        }
    }

    public int leaf(int sort, int u) {
        if (sort == 0 && isUnit(u)) {
            return tree.numberOf(chooser.leafOfUnit(u));
        }
        if (sort == 1 && isTarget(u)) {
            return tree.numberOf(chooser.leafOfTarget(u));
        }
        return bad();
    }

    // ---- choices

    public int choice(int k, int j) {
        if (!isPlace(k) || j < NONE) {
            bads++;
            return BAD_CHOICE;
        }
        if (row.count == 0) {
            return no();
        }
        Choice chosen = chooser.choose(k, NONE);
        if (chosen.isMissing()) {
            return no();
        }
        if (j == NONE) {
            return chosen.count;
        }
        return j < chosen.count ? chosen.unit[j] : NOT_SO_MANY;
    }

    public int steps(int k) {
        return isTarget(k) ? chooser.choose(k, NONE).steps : bad();
    }

    public int tried(int k) {
        return isTarget(k) ? chooser.choose(k, NONE).tried : bad();
    }

    public int fit(int u, int k) {
        return isUnit(u) && isTarget(k) ? prices.ofFit(kind, u, k) : bad();
    }

    public int joint(int u, int v) {
        return isUnit(u) && isUnit(v) ? prices.ofJoint(u, v) : bad();
    }

    // ---- chains

    public int cost() {
        return findChain(NONE) ? chains.leastPrice() : no();
    }

    public int chain(int k) {
        if (!isPlace(k)) {
            return bad();
        }
        return findChain(NONE) ? chains.path[k] : no();
    }

    public int ways() {
        return findChain(NONE) ? chains.waysOfLeast() : no();
    }

    public int next() {
        return findChain(NONE) ? chains.secondPrice() : no();
    }

    public int dearest() {
        return findChain(NONE) ? chains.mostPrice() : no();
    }

    public int without(int u) {
        if (!isUnit(u)) {
            return bad();
        }
        return findChain(u) ? chains.leastPrice() : no();
    }

    public int about(int what) {
        if (!within(what, 0, 3)) {
            return bad();
        }
        if (!findChain(NONE)) {
            return no();
        }
        switch (what) {
            case 0: return chains.pathFollowers(units);
            case 1: return chains.pathFits(kind);
            case 2: return chains.pathJoints();
            default: return chains.dearestPathJoint();
        }
    }

    public int cheapest(int what) {
        if (!within(what, 0, 1)) {
            return bad();
        }
        if (!chooser.chooseAll(NONE)) {
            return no();
        }
        int bestKind = 0;
        int bestPrice = FAR;
        for (int tryKind = 0; tryKind < KINDS; tryKind++) {
            chains.weigh(tryKind);
            if (chains.leastPrice() < bestPrice) {
                bestKind = tryKind;
                bestPrice = chains.leastPrice();
            }
        }
        return what == 0 ? bestKind : bestPrice;
    }

    public int told(int what) {
        switch (what) {
            case 0: return bads;
            case 1: return noes;
            case 2: return fulls;
            case 3: return text.count;
            case 4: return units.count;
            case 5: return row.count;
            case 6: return kind;
            default: return bad();
        }
    }

    public long digest() {
        long h = 1987L;
        for (int what = 0; what <= 6; what++) {
            h = 31L * h + told(what);
        }
        for (int u = 0; u < units.count; u++) {
            for (int what = 0; what <= 5; what++) {
                h = 31L * h + of(u, what);
            }
        }
        for (int sound = 0; sound < SOUNDS; sound++) {
            h = 31L * h + others[sound];
        }
        for (int k = 0; k < row.count; k++) {
            for (int what = 0; what <= 2; what++) {
                h = 31L * h + target(k, what);
            }
        }
        h = 31L * h + tree.leaves;
        h = 31L * h + tree.height;
        if (!findChain(NONE)) {
            return 31L * h + NONE;
        }
        h = 31L * h + chains.leastPrice();
        for (int k = 0; k < row.count; k++) {
            h = 31L * h + chains.path[k];
        }
        return h;
    }

    /** False, if there can be no chain without the absent unit (NONE: all are there). */
    private boolean findChain(int absent) {
        if (!chooser.chooseAll(absent)) {
            return false;
        }
        chains.weigh(kind);
        chains.trace();
        return true;
    }

    private int emptyLeaves() {
        // a text of 120 bytes tells 23 leaves at most, so a long has a bit for each
        long reached = 0L;
        for (int u = 0; u < units.count; u++) {
            reached |= 1L << tree.numberOf(chooser.leafOfUnit(u));
        }
        return tree.leaves - Long.bitCount(reached);
    }

    private boolean isUnit(int u) {
        return u >= 0 && u < units.count;
    }

    private boolean isTarget(int k) {
        return k >= 0 && k < row.count;
    }

    /** Without a row all places that a row could have are well told, and it is NO that answers. */
    private boolean isPlace(int k) {
        return row.count == 0 ? within(k, 0, MOST_TARGETS - 1) : isTarget(k);
    }

    private static boolean isSound(int sound) {
        return within(sound, 0, SOUNDS - 1);
    }

    private static boolean isTake(int take) {
        return within(take, 0, TAKES - 1);
    }

    private static boolean within(int number, int least, int most) {
        return number >= least && number <= most;
    }

    private int bad() {
        bads++;
        return BAD;
    }

    private int no() {
        noes++;
        return NO;
    }

    private int full() {
        fulls++;
        return FULL;
    }

    /** The units as they came. */
    private static final class Units {
        final int[] sound = new int[MOST_UNITS];
        final int[] left = new int[MOST_UNITS];
        final int[] right = new int[MOST_UNITS];
        final int[] pitch = new int[MOST_UNITS];
        final int[] length = new int[MOST_UNITS];
        final int[] take = new int[MOST_UNITS];
        final int[] follower = new int[MOST_UNITS];
        final int[] newest = new int[TAKES];
        int count;

        Units() {
            removeAll();
        }

        void removeAll() {
            count = 0;
            for (int t = 0; t < TAKES; t++) {
                newest[t] = NONE;
            }
        }

        int add(int ofSound, int onLeft, int onRight, int ofPitch, int ofLength, int ofTake) {
            if (count < 0 || count >= MOST_UNITS || !isTake(ofTake)) {
                return NONE;
            }
            int u = count;
            sound[u] = ofSound;
            left[u] = onLeft;
            right[u] = onRight;
            pitch[u] = ofPitch;
            length[u] = ofLength;
            take[u] = ofTake;
            follower[u] = NONE;
            int before = newest[ofTake];
            if (before >= 0 && before < u) {
                follower[before] = u;
            }
            newest[ofTake] = u;
            count++;
            return u;
        }

        void putRight(int u, int onRight) {
            if (u >= 0 && u < count) {
                right[u] = onRight;
            }
        }
    }

    /** The targets, one behind the other. */
    private static final class Row {
        final int[] sound = new int[MOST_TARGETS];
        final int[] pitch = new int[MOST_TARGETS];
        final int[] length = new int[MOST_TARGETS];
        int count;

        void add(int ofSound, int ofPitch, int ofLength) {
            if (count >= 0 && count < MOST_TARGETS) {
                sound[count] = ofSound;
                pitch[count] = ofPitch;
                length[count] = ofLength;
                count++;
            }
        }

        void become(Row from) {
            count = 0;
            for (int k = 0; k < MOST_TARGETS && k < from.count; k++) {
                add(from.sound[k], from.pitch[k], from.length[k]);
            }
        }

        int leftOf(int k) {
            return k > 0 && k < count ? sound[k - 1] : SILENCE;
        }

        int rightOf(int k) {
            return k >= 0 && k < count - 1 ? sound[k + 1] : SILENCE;
        }
    }

    /** The tree of questions; node 0 is its root, and every node stands behind the one above it. */
    private static final class Tree {
        static final int ROOT = 0;
        static final int LEAF = '*';

        // each node is told by a byte of the text at least
        final int[] letter = new int[MOST_BYTES];
        final int[] figure = new int[MOST_BYTES];
        final int[] above = new int[MOST_BYTES];
        final int[] yes = new int[MOST_BYTES];
        final int[] no = new int[MOST_BYTES];
        final int[] number = new int[MOST_BYTES];
        int nodes;
        int leaves;
        int height;

        Tree() {
            addLeaf(NONE);
        }

        void removeAll() {
            nodes = 0;
            leaves = 0;
            height = 0;
        }

        int addLeaf(int under) {
            int node = addNode(LEAF, 0, under);
            if (node != NONE) {
                number[node] = leaves;
                leaves++;
            }
            return node;
        }

        int addQuestion(int ofLetter, int ofFigure, int under, int deep) {
            height = Math.max(height, deep);
            return addNode(ofLetter, ofFigure, under);
        }

        private int addNode(int ofLetter, int ofFigure, int under) {
            if (nodes < 0 || nodes >= MOST_BYTES) {
                return NONE;
            }
            int node = nodes;
            letter[node] = ofLetter;
            figure[node] = ofFigure;
            above[node] = under;
            yes[node] = NONE;
            no[node] = NONE;
            number[node] = NONE;
            nodes++;
            return node;
        }

        void putBranches(int node, int ifYes, int ifNo) {
            if (isNode(node)) {
                yes[node] = ifYes;
                no[node] = ifNo;
            }
        }

        void become(Tree from) {
            nodes = from.nodes;
            leaves = from.leaves;
            height = from.height;
            for (int node = 0; node < MOST_BYTES && node < nodes; node++) {
                letter[node] = from.letter[node];
                figure[node] = from.figure[node];
                above[node] = from.above[node];
                yes[node] = from.yes[node];
                no[node] = from.no[node];
                number[node] = from.number[node];
            }
        }

        int leafFor(int left, int right, int pitch, int length) {
            int node = ROOT;
            for (int deep = 0; deep < MOST_QUESTIONS && letter[node] != LEAF; deep++) {
                int below = saysYes(node, left, right, pitch, length) ? yes[node] : no[node];
                if (!isNode(below)) {
                    return node;
                }
                node = below;
            }
            return node;
        }

        private boolean saysYes(int node, int left, int right, int pitch, int length) {
            switch (letter[node]) {
                case 'L': return left == figure[node];
                case 'R': return right == figure[node];
                case 'P': return pitch > figure[node];
                default: return length > figure[node];
            }
        }

        /** Whether the leaf is the node or lies somewhere below it. */
        boolean liesUnder(int leaf, int node) {
            int climbed = leaf;
            for (int up = 0; up < MOST_QUESTIONS && climbed != node && climbed != NONE; up++) {
                climbed = nodeAbove(climbed);
            }
            return climbed == node;
        }

        int nodeAbove(int node) {
            return node >= 0 && node < nodes ? above[node] : NONE;
        }

        int numberOf(int leaf) {
            return isNode(leaf) ? number[leaf] : NONE;
        }

        private boolean isNode(int node) {
            return node >= 0 && node < nodes;
        }
    }

    /** The text, and the row or the tree that it tells. */
    private static final class Text {
        static final int END = -1;

        final int[] bytes = new int[MOST_BYTES];
        final Row row = new Row();
        final Tree tree = new Tree();
        int count;
        boolean tellsRow;
        private int place;
        private int fault;

        void add(int c) {
            if (count >= 0 && count < MOST_BYTES) {
                bytes[count] = c;
                count++;
            }
        }

        /** The fault's place; NONE: row or tree is what the text tells. */
        int read() {
            place = 0;
            fault = NONE;
            row.count = 0;
            tree.removeAll();
            int c = look();
            tellsRow = c == 'r';
            if (c == 'r') {
                readRow();
            } else if (c == 't') {
                readTree();
            } else {
                fail();
            }
            if (fault == NONE) {
                readEnd();
            }
            return fault;
        }

        private void readRow() {
            if (!readWord("row")) {
                return;
            }
            // behind the last target that may be, all but the end is a fault of readEnd
            for (int k = 0; k < MOST_TARGETS && fault == NONE; k++) {
                int c = look();
                if (c == ';' && k > 0) {
                    return;
                }
                if (!within(c, 'a', 'f')) {
                    fail();
                } else {
                    readTarget(c - 'a');
                }
            }
        }

        private void readTarget(int sound) {
            place++;
            int pitch = readFigure(0, MOST_PITCH);
            if (fault != NONE) {
                return;
            }
            int length = readFigure(1, MOST_LENGTH);
            if (fault == NONE) {
                row.add(sound, pitch, length);
            }
        }

        private void readTree() {
            if (readWord("tree")) {
                readNode(NONE, 0);
            }
        }

        /** The node that was read, with so many questions above it; NONE: there was a fault. */
        private int readNode(int above, int questions) {
            int c = look();
            if (c == Tree.LEAF) {
                place++;
                return tree.addLeaf(above);
            }
            if (!isQuestion(c) || questions >= MOST_QUESTIONS) {
                return fail();
            }
            place++;
            int figure = readFigure(0, c == 'L' || c == 'R' ? SILENCE : 9);
            if (fault != NONE) {
                return NONE;
            }
            int node = tree.addQuestion(c, figure, above, questions + 1);
            return readBranches(node, questions + 1);
        }

        private int readBranches(int node, int questions) {
            if (!readSign('(')) {
                return NONE;
            }
            int yes = readNode(node, questions);
            if (fault != NONE) {
                return NONE;
            }
            int no = readNode(node, questions);
            if (fault != NONE || !readSign(')')) {
                return NONE;
            }
            tree.putBranches(node, yes, no);
            return node;
        }

        private static boolean isQuestion(int c) {
            return c == 'L' || c == 'R' || c == 'P' || c == 'D';
        }

        private void readEnd() {
            if (readSign(';') && look() != END) {
                fail();
            }
        }

        private boolean readWord(String word) {
            int start = place;
            for (int i = 0; i < word.length(); i++) {
                if (place >= count) {
                    fail();
                    return false;
                }
                if (bytes[place] != word.charAt(i)) {
                    // a word that is neither is told by its first byte
                    place = start;
                    fail();
                    return false;
                }
                place++;
            }
            return true;
        }

        private int readFigure(int least, int most) {
            int figure = look() - '0';
            if (!within(figure, least, most)) {
                return fail();
            }
            place++;
            return figure;
        }

        private boolean readSign(int sign) {
            if (look() != sign) {
                fail();
                return false;
            }
            place++;
            return true;
        }

        /** The next byte that is no blank, which is at the place then. */
        private int look() {
            while (place < count && bytes[place] == ' ') {
                place++;
            }
            return place < count ? bytes[place] : END;
        }

        private int fail() {
            fault = place;
            return NONE;
        }
    }

    /** The units that a target may be made of. */
    private static final class Choice {
        final int[] unit = new int[MOST_UNITS];
        int count;
        int steps;
        int tried;

        void begin() {
            count = 0;
            steps = 0;
            tried = 0;
        }

        void add(int u) {
            if (count >= 0 && count < MOST_UNITS) {
                unit[count] = u;
                count++;
            }
        }

        void miss() {
            count = 0;
            steps = NONE;
        }

        boolean isMissing() {
            return steps == NONE;
        }
    }

    /** Finds the choices of the targets. */
    private static final class Chooser {
        private final Units units;
        private final Row row;
        private final Tree tree;
        private final int[] others;
        private final int[] leafOf = new int[MOST_UNITS];
        final Choice[] choices = new Choice[MOST_TARGETS];

        Chooser(Units units, Row row, Tree tree, int[] others) {
            this.units = units;
            this.row = row;
            this.tree = tree;
            this.others = others;
            for (int k = 0; k < MOST_TARGETS; k++) {
                choices[k] = new Choice();
            }
        }

        int leafOfUnit(int u) {
            return tree.leafFor(units.left[u], units.right[u], units.pitch[u], units.length[u]);
        }

        int leafOfTarget(int k) {
            return tree.leafFor(row.leftOf(k), row.rightOf(k), row.pitch[k], row.length[k]);
        }

        /** False, if there is no row or a target of it is missing. */
        boolean chooseAll(int absent) {
            findLeaves();
            for (int k = 0; k < row.count; k++) {
                chooseFor(k, absent);
                if (choices[k].isMissing()) {
                    return false;
                }
            }
            return row.count > 0;
        }

        Choice choose(int k, int absent) {
            findLeaves();
            chooseFor(k, absent);
            return choices[k];
        }

        private void findLeaves() {
            for (int u = 0; u < units.count; u++) {
                leafOf[u] = leafOfUnit(u);
            }
        }

        private void chooseFor(int k, int absent) {
            Choice chosen = choices[k];
            chosen.begin();
            int leaf = leafOfTarget(k);
            int sound = row.sound[k];
            int seen = 0;
            for (int round = 0; round < SOUNDS && (seen & (1 << sound)) == 0; round++) {
                seen |= 1 << sound;
                chosen.tried++;
                if (round > 0) {
                    chosen.steps++;
                }
                climb(chosen, sound, leaf, absent);
                if (chosen.count > 0) {
                    return;
                }
                sound = others[sound];
            }
            chosen.miss();
        }

        /** Goes up from the leaf until the sound has units below the node. */
        private void climb(Choice chosen, int sound, int leaf, int absent) {
            int node = leaf;
            for (int up = 0; up <= MOST_QUESTIONS; up++) {
                gather(chosen, sound, node, absent);
                node = tree.nodeAbove(node);
                if (chosen.count > 0 || node == NONE) {
                    return;
                }
                chosen.steps++;
            }
        }

        private void gather(Choice chosen, int sound, int node, int absent) {
            for (int u = 0; u < units.count; u++) {
                if (u != absent && units.sound[u] == sound && tree.liesUnder(leafOf[u], node)) {
                    chosen.add(u);
                }
            }
        }
    }

    /** What units cost for targets and beside one another. */
    private static final class Prices {
        private static final int BESIDE = 1;
        private static final int HIGH = 2;
        private static final int STRICT = 3;
        private static final int LAX = 4;

        private final Units units;
        private final Row row;

        Prices(Units units, Row row) {
            this.units = units;
            this.row = row;
        }

        int ofFit(int kind, int u, int k) {
            int pitchGap = Math.abs(units.pitch[u] - row.pitch[k]);
            int plain = pitchGap + Math.abs(units.length[u] - row.length[k]);
            switch (kind) {
                case BESIDE: return plain + besidePart(u, k);
                case HIGH: return plain + pitchGap;
                case STRICT: return 2 * (plain + besidePart(u, k));
                case LAX: return (plain + pitchGap) / 2;
                default: return plain;
            }
        }

        private int besidePart(int u, int k) {
            int leftPart = units.left[u] == row.leftOf(k) ? 0 : 2;
            int rightPart = units.right[u] == row.rightOf(k) ? 0 : 2;
            return leftPart + rightPart;
        }

        int ofJoint(int u, int v) {
            if (units.follower[u] == v) {
                return 0;
            }
            int rightPart = units.right[u] == units.sound[v] ? 0 : 2;
            int leftPart = units.left[v] == units.sound[u] ? 0 : 2;
            return 3 + Math.abs(units.pitch[u] - units.pitch[v]) + rightPart + leftPart;
        }
    }

    /** For each of some beginnings, what the chains that begin so cost. */
    private static final class Tally {
        final int[] least;
        final int[] second;
        final int[] most;
        final int[] ways;
        /** Which entry the cheapest chain goes on with, the first of like ones. */
        final int[] onward;

        Tally(int entries) {
            int size = Math.max(entries, 0);
            least = new int[size];
            second = new int[size];
            most = new int[size];
            ways = new int[size];
            onward = new int[size];
        }

        /** No chain yet. */
        void begin(int i) {
            least[i] = FAR;
            second[i] = FAR;
            most[i] = 0;
            ways[i] = 0;
            onward[i] = 0;
        }

        /** The chain that ends at once. */
        void end(int i) {
            begin(i);
            least[i] = 0;
            ways[i] = 1;
        }

        /** Entry i may go on, at a price, with entry j of the tally behind it. */
        void offer(int i, int price, Tally behind, int j) {
            int low = price + behind.least[j];
            most[i] = Math.max(most[i], price + behind.most[j]);
            if (low < least[i]) {
                second[i] = Math.min(least[i], price + behind.second[j]);
                least[i] = low;
                ways[i] = behind.ways[j];
                onward[i] = j;
                return;
            }
            second[i] = Math.min(second[i], low);
            if (low == least[i]) {
                ways[i] = Math.min(MOST_WAYS, ways[i] + behind.ways[j]);
            }
        }
    }

    /** Weighs the chains of the chooser's choices, from the last target to the first. */
    private static final class Chains {
        private final Row row;
        private final Choice[] choices;
        private final Prices prices;
        private final Tally[] tallies = new Tally[MOST_TARGETS];
        private final Tally whole = new Tally(1);
        private final Tally ending = new Tally(1);
        final int[] path = new int[MOST_TARGETS];

        Chains(Row row, Chooser chooser, Prices prices) {
            this.row = row;
            this.choices = chooser.choices;
            this.prices = prices;
            for (int k = 0; k < MOST_TARGETS; k++) {
                tallies[k] = new Tally(MOST_UNITS);
            }
            ending.end(0);
        }

        void weigh(int kind) {
            for (int k = row.count - 1; k >= 0; k--) {
                for (int i = 0; i < choices[k].count; i++) {
                    weighEntry(kind, k, i);
                }
            }
            whole.begin(0);
            for (int i = 0; i < choices[0].count; i++) {
                whole.offer(0, 0, tallies[0], i);
            }
        }

        private void weighEntry(int kind, int k, int i) {
            int u = choices[k].unit[i];
            int fit = prices.ofFit(kind, u, k);
            tallies[k].begin(i);
            if (k + 1 >= row.count) {
                tallies[k].offer(i, fit, ending, 0);
                return;
            }
            Choice behind = choices[k + 1];
            for (int j = 0; j < behind.count; j++) {
                int joint = prices.ofJoint(u, behind.unit[j]);
                tallies[k].offer(i, fit + joint, tallies[k + 1], j);
            }
        }

        /** Puts the cheapest chain into the path, behind weigh. */
        void trace() {
            int i = whole.onward[0];
            for (int k = 0; k < row.count && i < choices[k].count; k++) {
                path[k] = choices[k].unit[i];
                i = tallies[k].onward[i];
            }
        }

        int leastPrice() {
            return whole.least[0];
        }

        int secondPrice() {
            return whole.second[0] < FAR ? whole.second[0] : NONE;
        }

        int mostPrice() {
            return whole.most[0];
        }

        int waysOfLeast() {
            return whole.ways[0];
        }

        int pathFollowers(Units units) {
            int followers = 0;
            for (int k = 1; k < row.count; k++) {
                if (units.follower[path[k - 1]] == path[k]) {
                    followers++;
                }
            }
            return followers;
        }

        int pathFits(int kind) {
            int sum = 0;
            for (int k = 0; k < row.count; k++) {
                sum += prices.ofFit(kind, path[k], k);
            }
            return sum;
        }

        int pathJoints() {
            int sum = 0;
            for (int k = 1; k < row.count; k++) {
                sum += prices.ofJoint(path[k - 1], path[k]);
            }
            return sum;
        }

        int dearestPathJoint() {
            int dearest = 0;
            for (int k = 1; k < row.count; k++) {
                dearest = Math.max(dearest, prices.ofJoint(path[k - 1], path[k]));
            }
            return dearest;
        }
    }
}
