import java.util.ArrayDeque;
import java.util.ArrayList;
import java.util.Arrays;
import java.util.Deque;
import java.util.List;
import java.util.Random;
import java.util.function.IntSupplier;

/**
 * Many random runs of calls on a UnitVoices and on a slow plain model of the document, which tries
 * every chain one by one and reads texts with a stack instead of by recursion.
 */
public final class RandomRunsTest {
    static final int RUNS = 500;
    static final int CALLS = 512;
    static final long MOST_CHAINS = 6000;

    static int wrong = 0;
    static int chainAnswers = 0;
    static int goodReads = 0;

    public static void main(String[] args) {
        for (int run = 0; run < RUNS && wrong < 20; run++) {
            new Run(run).go();
        }
        if (chainAnswers < 1000 || goodReads < 1000) {
            System.out.println("the runs are too poor: " + chainAnswers + " chains, " + goodReads + " texts read");
            wrong++;
        }
        System.out.println(wrong == 0 ? "RandomRunsTest: all as due" : "RandomRunsTest: " + wrong + " wrong");
        if (wrong != 0) System.exit(1);
    }

    static final class Run {
        final int seed;
        final Random random;
        final UnitVoices real = new UnitVoices();
        final Model model = new Model();
        final List<String> calls = new ArrayList<>();
        final int fewSounds;
        int left = CALLS;

        Run(int seed) {
            this.seed = seed;
            this.random = new Random(seed * 7919L + 17);
            this.fewSounds = random.nextInt(6) + 1;
        }

        void go() {
            int before = wrong;
            while (left > 0 && wrong == before) {
                step();
            }
            if (wrong != before) {
                System.out.println("  run " + seed + ": " + String.join(" ", calls));
            }
        }

        boolean due(String call, long got, long want) {
            left--;
            calls.add(call + "=" + got);
            if (got != want) {
                wrong++;
                System.out.println("run " + seed + ": " + call + " answered " + got + ", due is " + want);
            }
            return got == want;
        }

        int num(int low, int high) {
            int dice = random.nextInt(60);
            if (dice == 0) return low - 1;
            if (dice == 1) return high + 1;
            if (dice == 2) return random.nextInt();
            return low + random.nextInt(Math.max(1, high - low + 1));
        }

        int sound() {
            return random.nextInt(60) == 0 ? num(0, 5) : random.nextInt(fewSounds);
        }

        void step() {
            switch (random.nextInt(14)) {
                case 0: case 1: case 2: {
                    int s = sound(), l = num(0, 6), r = num(0, 6), p = num(0, 9), d = num(1, 9), t = num(0, 3);
                    due("unit(" + s + "," + l + "," + r + "," + p + "," + d + "," + t + ")", real.unit(s, l, r, p, d, t), model.unit(s, l, r, p, d, t));
                    break;
                }
                case 3: {
                    int s = num(0, 999999), n = num(1, 9), t = num(0, 3);
                    due("records(" + s + "," + n + "," + t + ")", real.records(s, n, t), model.records(s, n, t));
                    break;
                }
                case 4: {
                    if (random.nextInt(12) == 0) due("empties()", real.empties(), model.empties());
                    break;
                }
                case 5: {
                    int s = num(0, 5), b = num(0, 5);
                    due("other(" + s + "," + b + ")", real.other(s, b), model.other(s, b));
                    break;
                }
                case 6: {
                    int k = num(0, 4);
                    due("fitter(" + k + ")", real.fitter(k), model.fitter(k));
                    break;
                }
                case 7: case 8: {
                    writeAndRead();
                    break;
                }
                case 9: {
                    int c = num(0, 127);
                    due("type(" + c + ")", real.type(c), model.type(c));
                    break;
                }
                default:
                    ask();
            }
        }

        void writeAndRead() {
            String words = random.nextInt(3) == 0 ? treeText() : rowText();
            words = spoil(blanks(words));
            due("clear()", real.clear(), model.clear());
            for (int i = 0; i < words.length(); i++) {
                int c = words.charAt(i);
                due("type(" + c + ")", real.type(c), model.type(c));
            }
            int answer = real.reads();
            if (answer > 0) goodReads++;
            due("reads()[" + words + "]", answer, model.reads());
        }

        String rowText() {
            StringBuilder b = new StringBuilder("row");
            int n = random.nextInt(20) == 0 ? random.nextInt(11) : 1 + random.nextInt(random.nextInt(3) == 0 ? 8 : 4);
            for (int i = 0; i < n; i++) {
                b.append((char) ('a' + random.nextInt(fewSounds))).append(random.nextInt(10)).append(1 + random.nextInt(9));
            }
            return b.append(';').toString();
        }

        String treeText() {
            StringBuilder b = new StringBuilder("tree");
            node(b, random.nextInt(30) == 0 ? 9 : 1 + random.nextInt(7), 0);
            return b.append(';').toString();
        }

        void node(StringBuilder b, int most, int above) {
            int keep = most == 9 ? 95 : 60;
            if (above >= most || b.length() > 90 || random.nextInt(100) >= keep) {
                b.append('*');
                return;
            }
            char c = "LRPD".charAt(random.nextInt(4));
            b.append(c).append(random.nextInt(c == 'L' || c == 'R' ? 7 : 10)).append('(');
            boolean swap = random.nextBoolean();
            node(b, swap ? Math.min(most, above + 2) : most, above + 1);
            node(b, swap ? most : Math.min(most, above + 2), above + 1);
            b.append(')');
        }

        String blanks(String words) {
            if (random.nextInt(3) != 0) return words;
            StringBuilder b = new StringBuilder();
            for (int i = 0; i < words.length(); i++) {
                boolean inWord = i > 0 && i < (words.charAt(0) == 'r' ? 3 : 4);
                if (!inWord && random.nextInt(5) == 0) b.append("  ", 0, 1 + random.nextInt(2));
                b.append(words.charAt(i));
            }
            if (random.nextInt(3) == 0) b.append(' ');
            return b.toString();
        }

        String spoil(String words) {
            if (random.nextInt(3) != 0 || words.isEmpty()) return words;
            int at = random.nextInt(words.length());
            String signs = "rowtreabcfg0123456789 *();LRPDx";
            char c = signs.charAt(random.nextInt(signs.length()));
            switch (random.nextInt(5)) {
                case 0: return words.substring(0, at);
                case 1: return words.substring(0, at) + words.substring(at + 1);
                case 2: return words.substring(0, at) + c + words.substring(at + 1);
                case 3: return words.substring(0, at) + c + words.substring(at);
                default: return words + c;
            }
        }

        void one(String call, IntSupplier got, IntSupplier want) {
            due(call, got.getAsInt(), want.getAsInt());
        }

        void ask() {
            int u = num(0, Math.max(0, model.units.size() - 1)), v = num(0, Math.max(0, model.units.size() - 1));
            int k = random.nextInt(10) == 0 ? num(0, 7) : num(0, Math.max(0, model.row.size() - 1));
            switch (random.nextInt(12)) {
                case 0: { int w = num(0, 6); one("of(" + u + "," + w + ")", () -> real.of(u, w), () -> model.of(u, w)); break; }
                case 1: { int w = num(0, 4); one("target(" + k + "," + w + ")", () -> real.target(k, w), () -> model.target(k, w)); break; }
                case 2: { int w = num(0, 2); one("tree(" + w + ")", () -> real.tree(w), () -> model.tree(w)); break; }
                case 3: {
                    int s = num(0, 1), x = s == 1 ? k : u;
                    one("leaf(" + s + "," + x + ")", () -> real.leaf(s, x), () -> model.leaf(s, x));
                    break;
                }
                case 4: { int j = num(-1, 8); one("choice(" + k + "," + j + ")", () -> real.choice(k, j), () -> model.choice(k, j)); break; }
                case 5: one("steps(" + k + ")", () -> real.steps(k), () -> model.steps(k)); break;
                case 6: one("tried(" + k + ")", () -> real.tried(k), () -> model.tried(k)); break;
                case 7: one("fit(" + u + "," + k + ")", () -> real.fit(u, k), () -> model.fit(u, k)); break;
                case 8: one("joint(" + u + "," + v + ")", () -> real.joint(u, v), () -> model.joint(u, v)); break;
                case 9: { int w = num(0, 6); one("told(" + w + ")", () -> real.told(w), () -> model.told(w)); break; }
                default: askChains(u, k);
            }
        }

        void askChains(int u, int k) {
            if (model.tooMany(-1)) return;
            switch (random.nextInt(8)) {
                case 0: one("cost()", real::cost, model::cost); break;
                case 1: one("chain(" + k + ")", () -> real.chain(k), () -> model.chain(k)); break;
                case 2: one("ways()", real::ways, model::ways); break;
                case 3: one("next()", real::next, model::next); break;
                case 4: one("dearest()", real::dearest, model::dearest); break;
                case 5:
                    if (!model.tooMany(u)) one("without(" + u + ")", () -> real.without(u), () -> model.without(u));
                    break;
                case 6: {
                    int w = num(0, 3);
                    one("about(" + w + ")", () -> real.about(w), () -> model.about(w));
                    int x = num(0, 1);
                    one("cheapest(" + x + ")", () -> real.cheapest(x), () -> model.cheapest(x));
                    break;
                }
                default: due("digest()", real.digest(), model.digest());
            }
        }
    }

    record Unit(int sound, int left, int right, int pitch, int length, int take) {}

    record Target(int sound, int pitch, int length) {}

    static final class Node {
        Node above, yes, no;
        int letter, figure, number;
    }

    /** The document, told once more in the slowest way. */
    static final class Model {
        final List<Unit> units = new ArrayList<>();
        List<Target> row = new ArrayList<>();
        Node root = new Node();
        final int[] others = {0, 1, 2, 3, 4, 5};
        int kind = 0;
        final StringBuilder text = new StringBuilder();
        final int[] refused = new int[3];

        int bad() { refused[0]++; return -2; }
        int no() { refused[1]++; return -3; }
        int full() { refused[2]++; return -4; }

        static boolean out(int x, int low, int high) { return x < low || x > high; }
        boolean noUnit(int u) { return out(u, 0, units.size() - 1); }
        boolean noTarget(int k) { return out(k, 0, row.size() - 1); }

        int unit(int s, int l, int r, int p, int d, int t) {
            if (out(s, 0, 5) || out(l, 0, 6) || out(r, 0, 6) || out(p, 0, 9) || out(d, 1, 9) || out(t, 0, 3)) return bad();
            if (units.size() == 40) return full();
            units.add(new Unit(s, l, r, p, d, t));
            return units.size() - 1;
        }

        int records(int seed, int n, int take) {
            if (out(seed, 0, 999999) || out(n, 1, 9) || out(take, 0, 3)) return bad();
            if (units.size() + n > 40) return full();
            int[] xs = new int[n];
            long x = seed;
            for (int i = 0; i < n; i++) {
                x = (x * 1103515245L + 12345L) & 0x7fffffffL;
                xs[i] = (int) x;
            }
            for (int i = 0; i < n; i++) {
                int l = i == 0 ? 6 : (xs[i - 1] >> 16) % 6, r = i == n - 1 ? 6 : (xs[i + 1] >> 16) % 6;
                units.add(new Unit((xs[i] >> 16) % 6, l, r, (xs[i] >> 12) % 10, (xs[i] >> 10) % 9 + 1, take));
            }
            return units.size();
        }

        int follower(int u) {
            for (int v = u + 1; v < units.size(); v++) if (units.get(v).take() == units.get(u).take()) return v;
            return -1;
        }

        int of(int u, int what) {
            if (noUnit(u) || out(what, 0, 6)) return bad();
            Unit x = units.get(u);
            return new int[] {x.sound(), x.left(), x.right(), x.pitch(), x.length(), x.take(), follower(u)}[what];
        }

        int empties() { int n = units.size(); units.clear(); return n; }

        int other(int s, int by) {
            if (out(s, 0, 5) || out(by, 0, 5)) return bad();
            int was = others[s];
            others[s] = by;
            return was;
        }

        int fitter(int k) {
            if (out(k, 0, 4)) return bad();
            int was = kind;
            kind = k;
            return was;
        }

        int type(int c) {
            if (out(c, 0, 127)) return bad();
            if (text.length() == 120) return full();
            text.append((char) c);
            return text.length();
        }

        int clear() { int n = text.length(); text.setLength(0); return n; }

        /** Reads by a stack of what must come: w word, t more targets, f F figures, n node, signs. */
        int reads() {
            Deque<String> due = new ArrayDeque<>(List.of("word", ";", "end"));
            List<Target> newRow = new ArrayList<>();
            StringBuilder shape = new StringBuilder();
            int depth = 0, i = 0, sound = 0, pitch = 0, figureMost = 0;
            while (!due.isEmpty()) {
                while (i < text.length() && text.charAt(i) == ' ') i++;
                String what = due.pop();
                if (what.equals("end")) { if (i < text.length()) return -10 - i; break; }
                if (i == text.length()) return -10 - i;
                char c = text.charAt(i);
                if (what.equals("word")) {
                    String word = c == 'r' ? "row" : "tree";
                    String rest = text.substring(i, Math.min(text.length(), i + word.length()));
                    if (!word.startsWith(rest)) return -10 - i;
                    if (rest.length() < word.length()) return -10 - text.length();
                    i += word.length();
                    due.push(c == 'r' ? "target" : "node");
                    continue;
                }
                if (what.equals("target") || what.equals("more")) {
                    if (what.equals("more") && c == ';') continue;
                    if ("abcdef".indexOf(c) < 0 || newRow.size() == 8) return -10 - i;
                    sound = c - 'a';
                    due.push("length");
                    due.push("pitch");
                } else if (what.equals("pitch")) {
                    if (!Character.isDigit(c)) return -10 - i;
                    pitch = c - '0';
                } else if (what.equals("length")) {
                    if (!Character.isDigit(c) || c == '0') return -10 - i;
                    newRow.add(new Target(sound, pitch, c - '0'));
                    due.push("more");
                } else if (what.equals("node")) {
                    if ("*LRPD".indexOf(c) < 0 || (c != '*' && depth == 7)) return -10 - i;
                    shape.append(c);
                    if (c != '*') {
                        depth++;
                        figureMost = c == 'L' || c == 'R' ? '6' : '9';
                        for (String s : List.of(")", "node", "node", "(", "figure")) due.push(s);
                    }
                } else if (what.equals("figure")) {
                    if (c < '0' || c > figureMost) return -10 - i;
                    shape.append(c);
                } else {
                    if (c != what.charAt(0)) return -10 - i;
                    if (c == ')') depth--;
                }
                i++;
            }
            if (!newRow.isEmpty()) {
                row = newRow;
                return row.size();
            }
            int[] leaves = {0};
            root = grow(shape, new int[] {0}, null, leaves);
            return leaves[0];
        }

        static Node grow(CharSequence shape, int[] at, Node above, int[] leaves) {
            Node node = new Node();
            node.above = above;
            node.letter = shape.charAt(at[0]++);
            if (node.letter == '*') {
                node.number = leaves[0]++;
                return node;
            }
            node.figure = shape.charAt(at[0]++) - '0';
            node.yes = grow(shape, at, node, leaves);
            node.no = grow(shape, at, node, leaves);
            return node;
        }

        int beside(int k) { return out(k, 0, row.size() - 1) ? 6 : row.get(k).sound(); }

        int target(int k, int what) {
            if (noTarget(k) || out(what, 0, 4)) return bad();
            Target t = row.get(k);
            return new int[] {t.sound(), t.pitch(), t.length(), beside(k - 1), beside(k + 1)}[what];
        }

        static int leaves(Node n) { return n.yes == null ? 1 : leaves(n.yes) + leaves(n.no); }
        static int height(Node n) { return n.yes == null ? 0 : 1 + Math.max(height(n.yes), height(n.no)); }

        int emptyLeaves(Node n) {
            if (n.yes != null) return emptyLeaves(n.yes) + emptyLeaves(n.no);
            for (Unit x : units) if (leafOf(x) == n) return 0;
            return 1;
        }

        int tree(int what) {
            if (out(what, 0, 2)) return bad();
            return what == 0 ? leaves(root) : what == 1 ? height(root) : emptyLeaves(root);
        }

        Node down(int left, int right, int pitch, int length) {
            Node n = root;
            while (n.yes != null) {
                boolean yes = n.letter == 'L' ? left == n.figure : n.letter == 'R' ? right == n.figure
                    : n.letter == 'P' ? pitch > n.figure : length > n.figure;
                n = yes ? n.yes : n.no;
            }
            return n;
        }

        Node leafOf(Unit x) { return down(x.left(), x.right(), x.pitch(), x.length()); }
        Node leafOf(int k) { return down(beside(k - 1), beside(k + 1), row.get(k).pitch(), row.get(k).length()); }

        int leaf(int sort, int u) {
            if (out(sort, 0, 1) || (sort == 0 ? noUnit(u) : noTarget(u))) return bad();
            return sort == 0 ? leafOf(units.get(u)).number : leafOf(u).number;
        }

        /** The units of the choice, then steps and tried at the end; a missing one has no units. */
        List<Integer> choose(int k, int absent) {
            List<Integer> seen = new ArrayList<>(), found = new ArrayList<>();
            int steps = 0;
            int sound = row.get(k).sound();
            while (!seen.contains(sound)) {
                seen.add(sound);
                for (Node n = leafOf(k); n != null; n = n.above) {
                    for (int u = 0; u < units.size(); u++) {
                        if (u == absent || units.get(u).sound() != sound) continue;
                        Node m = leafOf(units.get(u));
                        while (m != null && m != n) m = m.above;
                        if (m == n) found.add(u);
                    }
                    if (!found.isEmpty()) {
                        found.add(steps);
                        found.add(seen.size());
                        return found;
                    }
                    steps++;
                }
                sound = others[sound];
            }
            return new ArrayList<>(List.of(-1, seen.size()));
        }

        List<Integer> chosen(int k, int absent) {
            List<Integer> c = choose(k, absent);
            return c.subList(0, c.size() - 2);
        }

        boolean badPlace(int k) { return out(k, 0, 7) || (!row.isEmpty() && k >= row.size()); }

        int choice(int k, int j) {
            if (badPlace(k) || j < -1) { bad(); return -10; }
            if (row.isEmpty() || chosen(k, -1).isEmpty()) return no();
            List<Integer> c = chosen(k, -1);
            return j == -1 ? c.size() : j < c.size() ? c.get(j) : -5;
        }

        int steps(int k) {
            if (noTarget(k)) return bad();
            List<Integer> c = choose(k, -1);
            return c.get(c.size() - 2);
        }

        int tried(int k) {
            if (noTarget(k)) return bad();
            List<Integer> c = choose(k, -1);
            return c.get(c.size() - 1);
        }

        int fitBy(int q, int u, int k) {
            Unit x = units.get(u);
            Target t = row.get(k);
            int p = Math.abs(x.pitch() - t.pitch()), d = Math.abs(x.length() - t.length());
            int b = (x.left() != beside(k - 1) ? 2 : 0) + (x.right() != beside(k + 1) ? 2 : 0);
            return new int[] {p + d, p + d + b, p + d + p, 2 * (p + d + b), (p + d + p) / 2}[q];
        }

        int jointOf(int u, int v) {
            if (follower(u) == v) return 0;
            Unit x = units.get(u), y = units.get(v);
            return 3 + Math.abs(x.pitch() - y.pitch()) + (x.right() != y.sound() ? 2 : 0) + (y.left() != x.sound() ? 2 : 0);
        }

        int fit(int u, int k) { return noUnit(u) || noTarget(k) ? bad() : fitBy(kind, u, k); }
        int joint(int u, int v) { return noUnit(u) || noUnit(v) ? bad() : jointOf(u, v); }

        boolean tooMany(int absent) {
            long n = 1;
            for (int k = 0; k < row.size(); k++) n *= Math.max(1, chosen(k, absent).size());
            return n > MOST_CHAINS;
        }

        /** Costs of all chains in the order of their units; null: there can be none. */
        List<int[]> chains(int q, int absent) {
            if (row.isEmpty()) return null;
            List<List<Integer>> choices = new ArrayList<>();
            for (int k = 0; k < row.size(); k++) {
                choices.add(new ArrayList<>(chosen(k, absent)));
                if (choices.get(k).isEmpty()) return null;
            }
            chainAnswers++;
            List<int[]> all = new ArrayList<>();
            extend(all, choices, new int[row.size()], 0, 0, q);
            return all;
        }

        void extend(List<int[]> all, List<List<Integer>> choices, int[] path, int k, int price, int q) {
            if (k == path.length) {
                int[] chain = Arrays.copyOf(path, k + 1);
                chain[k] = price;
                all.add(chain);
                return;
            }
            for (int u : choices.get(k)) {
                path[k] = u;
                int more = fitBy(q, u, k) + (k == 0 ? 0 : jointOf(path[k - 1], u));
                extend(all, choices, path, k + 1, price + more, q);
            }
        }

        static int price(int[] chain) { return chain[chain.length - 1]; }

        static int[] best(List<int[]> all) {
            int[] best = null;
            for (int[] chain : all) if (best == null || price(chain) < price(best)) best = chain;
            return best;
        }

        int cost() {
            List<int[]> all = chains(kind, -1);
            return all == null ? no() : price(best(all));
        }

        int chain(int k) {
            if (badPlace(k)) return bad();
            List<int[]> all = chains(kind, -1);
            return all == null ? no() : best(all)[k];
        }

        int ways() {
            List<int[]> all = chains(kind, -1);
            if (all == null) return no();
            int n = 0;
            for (int[] chain : all) if (price(chain) == price(best(all))) n++;
            return n;
        }

        int next() {
            List<int[]> all = chains(kind, -1);
            if (all == null) return no();
            all.remove(best(all));
            return all.isEmpty() ? -1 : price(best(all));
        }

        int dearest() {
            List<int[]> all = chains(kind, -1);
            if (all == null) return no();
            int most = 0;
            for (int[] chain : all) most = Math.max(most, price(chain));
            return most;
        }

        int without(int u) {
            if (noUnit(u)) return bad();
            List<int[]> all = chains(kind, u);
            return all == null ? no() : price(best(all));
        }

        int about(int what) {
            if (out(what, 0, 3)) return bad();
            List<int[]> all = chains(kind, -1);
            if (all == null) return no();
            int[] best = best(all);
            int[] sums = new int[4];
            for (int k = 0; k < row.size(); k++) {
                sums[1] += fitBy(kind, best[k], k);
                if (k == 0) continue;
                if (follower(best[k - 1]) == best[k]) sums[0]++;
                sums[2] += jointOf(best[k - 1], best[k]);
                sums[3] = Math.max(sums[3], jointOf(best[k - 1], best[k]));
            }
            return sums[what];
        }

        int cheapest(int what) {
            if (out(what, 0, 1)) return bad();
            if (chains(kind, -1) == null) return no();
            int which = -1, least = Integer.MAX_VALUE;
            for (int q = 4; q >= 0; q--) {
                int p = price(best(chains(q, -1)));
                if (p <= least) { which = q; least = p; }
            }
            return what == 0 ? which : least;
        }

        int told(int what) {
            if (out(what, 0, 6)) return bad();
            return new int[] {refused[0], refused[1], refused[2], text.length(), units.size(), row.size(), kind}[what];
        }

        long digest() {
            List<Integer> vs = new ArrayList<>();
            for (int what = 0; what < 7; what++) vs.add(told(what));
            for (Unit x : units) vs.addAll(List.of(x.sound(), x.left(), x.right(), x.pitch(), x.length(), x.take()));
            for (int o : others) vs.add(o);
            for (Target t : row) vs.addAll(List.of(t.sound(), t.pitch(), t.length()));
            vs.add(leaves(root));
            vs.add(height(root));
            List<int[]> all = chains(kind, -1);
            if (all == null) {
                vs.add(-1);
            } else {
                int[] best = best(all);
                vs.add(price(best));
                for (int k = 0; k < row.size(); k++) vs.add(best[k]);
            }
            long h = 1987;
            for (int v : vs) h = 31 * h + v;
            return h;
        }
    }
}
