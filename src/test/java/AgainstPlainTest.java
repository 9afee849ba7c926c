import java.util.ArrayList;
import java.util.Arrays;
import java.util.List;
import java.util.Random;

/**
 * Long runs of calls, always the same ones, whose answers are compared with those of a plain
 * model. It follows the document's words by trying all that there is, but for layers of more
 * than 6 nodes, which are too many to try: there sets of nodes are moved until none helps.
 */
public final class AgainstPlainTest {
    private static int wrong = 0;
    private static int compared = 0;

    public static void main(String[] args) {
        for (int seed = 0; seed < 1200; seed++) {
            playRun(seed);
        }
        for (int seed = 0; seed < 20000; seed++) {
            playTree(seed);
        }
        System.out.println(compared + " answers compared, " + wrong + " wrong");
        if (wrong != 0) {
            System.exit(1);
        }
    }

    private static void due(int seed, String call, int got, int want) {
        compared++;
        if (got != want) {
            wrong++;
            if (wrong < 30) {
                System.out.println("run " + seed + ": " + call + " answered " + got + ", due is " + want);
            }
        }
    }

    /** Several kinds of graph, as each favours other promises: few nodes, many, trees, long arcs. */
    private static void playRun(int seed) {
        Random random = new Random(seed);
        LayerDrawing x = new LayerDrawing();
        Plain plain = new Plain();
        int kind = seed % 6;
        int before = compared;
        build(seed, random, kind, x, plain);
        askAll(seed, random, x, plain);
        for (int change = 0; change < 3; change++) {
            change(seed, random, x, plain);
            askSome(seed, random, x, plain, 15);
        }
        due(seed, "clear()", x.clear(), plain.clear());
        askSome(seed, random, x, plain, 3);
        build(seed, random, (kind + 1) % 6, x, plain);
        askSome(seed, random, x, plain, 60);
        if (compared - before > 512) {
            throw new IllegalStateException("nothing is promised after 512 calls");
        }
    }

    /** Trees alone, half of their nodes very wide, so that parts reach over and under others. */
    private static void playTree(int seed) {
        Random random = new Random(seed);
        LayerDrawing x = new LayerDrawing();
        Plain plain = new Plain();
        int n = 1 + random.nextInt(12);
        for (int i = 0; i < n; i++) {
            int w = random.nextBoolean() ? 9 : 1 + random.nextInt(9);
            due(seed, "node(" + w + ")", x.node(w), plain.node(w));
        }
        int[] at = shuffled(random, n);
        for (int i = 1; i < n; i++) {
            addArc(seed, x, plain, at[random.nextInt(i)], at[i]);
        }
        for (int v = 0; v <= n; v++) {
            due(seed, "tidy(" + v + ")", x.tidy(v), plain.tidy(v));
        }
    }

    private static void build(int seed, Random random, int kind, LayerDrawing x, Plain plain) {
        int nodes = kind == 0 ? random.nextInt(5) : kind == 1 ? 6 : kind == 5 ? 10 + random.nextInt(4) : 2 + random.nextInt(11);
        for (int i = 0; i < nodes; i++) {
            int w = random.nextInt(20) == 0 ? random.nextInt(14) - 2 : 1 + random.nextInt(9);
            due(seed, "node(" + w + ")", x.node(w), plain.node(w));
        }
        int n = plain.nodes;
        if (kind == 2) {
            int[] at = shuffled(random, n);
            for (int i = 1; i < n; i++) {
                addArc(seed, x, plain, at[random.nextInt(Math.min(i, 1 + random.nextInt(4)))], at[i]);
            }
        } else if (kind == 5) {
            for (int i = 1; i < n; i++) {
                addArc(seed, x, plain, i - 1, i);
            }
            for (int i = 0; i < 12; i++) {
                addArc(seed, x, plain, random.nextInt(4), n - 1 - random.nextInt(5));
            }
        } else {
            int arcs = kind == 3 ? random.nextInt(28) : random.nextInt(2 * n + 1);
            for (int i = 0; i < arcs; i++) {
                int from = random.nextInt(n + 1);
                int to = random.nextInt(n + 1);
                boolean swap = kind == 4 && from > to;
                addArc(seed, x, plain, swap ? to : from, swap ? from : to);
            }
        }
    }

    private static int[] shuffled(Random random, int n) {
        int[] at = new int[n];
        for (int i = 0; i < n; i++) {
            int j = random.nextInt(i + 1);
            at[i] = at[j];
            at[j] = i;
        }
        return at;
    }

    private static void addArc(int seed, LayerDrawing x, Plain plain, int from, int to) {
        due(seed, "arc(" + from + ", " + to + ")", x.arc(from, to), plain.arc(from, to));
    }

    private static void change(int seed, Random random, LayerDrawing x, Plain plain) {
        int a = random.nextInt(26) - 1;
        int v = random.nextInt(14) - 1;
        int u = random.nextInt(13);
        int w = random.nextInt(12) - 1;
        switch (random.nextInt(4)) {
            case 0: due(seed, "drop(" + a + ")", x.drop(a), plain.drop(a)); break;
            case 1: due(seed, "width(" + v + ", " + w + ")", x.width(v, w), plain.width(v, w)); break;
            case 2: addArc(seed, x, plain, u, v); break;
            default: due(seed, "node(" + w + ")", x.node(w), plain.node(w)); break;
        }
    }

    private static void askAll(int seed, Random random, LayerDrawing x, Plain plain) {
        due(seed, "turns()", x.turns(), plain.turns());
        due(seed, "layers()", x.layers(), plain.layers());
        due(seed, "length()", x.length(), plain.length());
        due(seed, "bends()", x.bends(), plain.bends());
        for (int a = 0; a < 24; a++) {
            due(seed, "turned(" + a + ")", x.turned(a), plain.turned(a));
        }
        for (int v = 0; v < 12; v++) {
            due(seed, "layer(" + v + ")", x.layer(v), plain.layer(v));
            due(seed, "tidy(" + v + ")", x.tidy(v), plain.tidy(v));
        }
        int rounds = random.nextInt(6);
        due(seed, "round()", x.round(), plain.round());
        due(seed, "run(" + rounds + ")", x.run(rounds), plain.run(rounds));
        due(seed, "round()", x.round(), plain.round());
        due(seed, "fewest()", x.fewest(), plain.fewest());
        due(seed, "wide()", x.wide(), plain.wide());
        for (int l = -1; l <= 12; l++) {
            due(seed, "count(" + l + ")", x.count(l), plain.count(l));
            for (int i = 0; i < 6; i++) {
                due(seed, "item(" + l + ", " + i + ")", x.item(l, i), plain.item(l, i));
            }
        }
        for (int i = 0; i < 30; i++) {
            due(seed, "place(" + i + ")", x.place(i), plain.place(i));
        }
        for (int a = 0; a < 24; a++) {
            int k = random.nextInt(4);
            due(seed, "route(" + a + ", " + k + ")", x.route(a, k), plain.route(a, k));
        }
    }

    private static void askSome(int seed, Random random, LayerDrawing x, Plain plain, int times) {
        for (int t = 0; t < times; t++) {
            askOne(seed, random, x, plain);
        }
    }

    private static void askOne(int seed, Random random, LayerDrawing x, Plain plain) {
        int v = random.nextInt(14) - 1;
        int a = random.nextInt(26) - 1;
        int i = random.nextInt(75) - 1;
        int k = random.nextInt(8) - 1;
        int r = random.nextInt(24) - 1;
        switch (random.nextInt(17)) {
            case 0: due(seed, "turns()", x.turns(), plain.turns()); break;
            case 1: due(seed, "turned(" + a + ")", x.turned(a), plain.turned(a)); break;
            case 2: due(seed, "layer(" + v + ")", x.layer(v), plain.layer(v)); break;
            case 3: due(seed, "layers()", x.layers(), plain.layers()); break;
            case 4: due(seed, "length()", x.length(), plain.length()); break;
            case 5: due(seed, "bends()", x.bends(), plain.bends()); break;
            case 6:
            case 7:
            case 8: due(seed, "run(" + r + ")", x.run(r), plain.run(r)); break;
            case 9: due(seed, "round()", x.round(), plain.round()); break;
            case 10: due(seed, "count(" + k + ")", x.count(k), plain.count(k)); break;
            case 11: due(seed, "item(" + k + ", " + v + ")", x.item(k, v), plain.item(k, v)); break;
            case 12: due(seed, "fewest()", x.fewest(), plain.fewest()); break;
            case 13: due(seed, "place(" + i + ")", x.place(i), plain.place(i)); break;
            case 14: due(seed, "route(" + a + ", " + k + ")", x.route(a, k), plain.route(a, k)); break;
            case 15: due(seed, "wide()", x.wide(), plain.wide()); break;
            default: due(seed, "tidy(" + v + ")", x.tidy(v), plain.tidy(v)); break;
        }
    }

    /** An arc of the model; above and below are its ends when turned ones are turned. */
    private static final class Arc {
        final int number;
        final int from;
        final int to;
        boolean turned;
        List<Integer> items = new ArrayList<>();

        Arc(int number, int from, int to) {
            this.number = number;
            this.from = from;
            this.to = to;
        }

        int above() {
            return turned ? to : from;
        }

        int below() {
            return turned ? from : to;
        }
    }

    private static final class Plain {
        int nodes = 0;
        int made = 0;
        final int[] w = new int[12];
        List<Arc> arcs = new ArrayList<>();
        boolean knownTurned = false;
        boolean known = false;
        int turns;
        int[] layer;
        boolean ran = false;
        List<List<Integer>> meant;
        int crossings;
        int round;
        int[] place = new int[300];
        int bendCount;

        void changed() {
            knownTurned = false;
            known = false;
            ran = false;
        }

        int node(int width) {
            if (width < 1 || width > 9) return -2;
            if (nodes == 12) return -4;
            changed();
            w[nodes] = width;
            return nodes++;
        }

        int width(int v, int width) {
            if (v < 0 || v >= nodes) return -1;
            if (width < 1 || width > 9) return -2;
            changed();
            int was = w[v];
            w[v] = width;
            return was;
        }

        int arc(int from, int to) {
            if (from < 0 || from >= nodes || to < 0 || to >= nodes || from == to) return -1;
            if (made == 24) return -4;
            changed();
            arcs.add(new Arc(made, from, to));
            return made++;
        }

        Arc find(int number) {
            for (Arc a : arcs) {
                if (a.number == number) return a;
            }
            return null;
        }

        int drop(int number) {
            Arc a = find(number);
            if (a == null) return -1;
            changed();
            arcs.remove(a);
            return arcs.size();
        }

        int clear() {
            changed();
            int was = nodes;
            nodes = 0;
            made = 0;
            arcs = new ArrayList<>();
            return was;
        }

        void know() {
            if (known) return;
            known = true;
            knowTurned();
            layer = bestLayers();
            bendCount = 0;
            for (Arc a : arcs) {
                a.items = new ArrayList<>();
                a.items.add(a.above());
                for (int l = layer[a.above()] + 1; l < layer[a.below()]; l++) {
                    a.items.add(12 + bendCount++);
                }
                a.items.add(a.below());
            }
        }

        void knowTurned() {
            if (knownTurned) return;
            knownTurned = true;
            for (Arc a : arcs) a.turned = false;
            turns = 0;
            while (!turnSome(0, turns)) turns++;
        }

        /** Sets of so many arcs, the first first: those with the least number come before. */
        boolean turnSome(int start, int many) {
            if (many == 0) return !goesRound();
            for (int i = start; i + many <= arcs.size(); i++) {
                arcs.get(i).turned = true;
                if (turnSome(i + 1, many - 1)) return true;
                arcs.get(i).turned = false;
            }
            return false;
        }

        boolean goesRound() {
            int left = (1 << nodes) - 1;
            for (int pass = 0; pass < nodes; pass++) {
                int under = 0;
                for (Arc a : arcs) {
                    if ((left >> a.above() & 1) != 0) under |= 1 << a.below();
                }
                left &= under;
            }
            return left != 0;
        }

        int lengthOf(int[] at) {
            int sum = 0;
            for (Arc a : arcs) {
                int over = at[a.below()] - at[a.above()];
                if (over < 1) return Integer.MAX_VALUE;
                sum += over;
            }
            return sum;
        }

        int[] bestLayers() {
            int[] moved = layersByMoves();
            if (nodes <= 6) {
                int[] tried = layersByTrying();
                if (!Arrays.equals(moved, tried)) {
                    wrong++;
                    System.out.println("the model is at odds with itself");
                }
                return tried;
            }
            return moved;
        }

        int[] layersByTrying() {
            int[] part = new int[nodes];
            for (int v = 0; v < nodes; v++) part[v] = v;
            for (int pass = 0; pass < nodes; pass++) {
                for (Arc a : arcs) {
                    int least = Math.min(part[a.from], part[a.to]);
                    part[a.from] = least;
                    part[a.to] = least;
                }
            }
            int[] best = null;
            int bestLength = Integer.MAX_VALUE;
            int[] at = new int[nodes];
            int all = (int) Math.pow(nodes, nodes);
            for (int code = 0; code < all; code++) {
                int rest = code;
                for (int v = nodes - 1; v >= 0; v--) {
                    at[v] = rest % nodes;
                    rest /= nodes;
                }
                int length = lengthOf(at);
                if (length < bestLength && everyPartHasZero(part, at)) {
                    bestLength = length;
                    best = at.clone();
                }
            }
            return best;
        }

        boolean everyPartHasZero(int[] part, int[] at) {
            int zero = 0;
            int all = 0;
            for (int v = 0; v < nodes; v++) {
                all |= 1 << part[v];
                if (at[v] == 0) zero |= 1 << part[v];
            }
            return zero == all;
        }

        /** Sets of nodes are moved by one layer as long as that shortens, then as it lowers. */
        int[] layersByMoves() {
            int[] at = new int[nodes];
            for (int pass = 0; pass < nodes; pass++) {
                for (Arc a : arcs) at[a.below()] = Math.max(at[a.below()], at[a.above()] + 1);
            }
            boolean more = true;
            while (more) {
                more = false;
                int now = lengthOf(at);
                for (int set = 1; set < 1 << nodes && !more; set++) {
                    if (lengthOf(shifted(at, set, 1)) < now) {
                        at = shifted(at, set, 1);
                        more = true;
                    }
                }
            }
            more = true;
            while (more) {
                more = false;
                int now = lengthOf(at);
                for (int set = 1; set < 1 << nodes && !more; set++) {
                    int[] lowered = shifted(at, set, -1);
                    boolean below = false;
                    for (int l : lowered) below |= l < 0;
                    if (!below && lengthOf(lowered) == now) {
                        at = lowered;
                        more = true;
                    }
                }
            }
            return at;
        }

        int[] shifted(int[] at, int set, int by) {
            int[] other = at.clone();
            for (int v = 0; v < nodes; v++) {
                if ((set >> v & 1) != 0) other[v] += by;
            }
            return other;
        }

        int turns() {
            know();
            return turns;
        }

        int turned(int number) {
            know();
            Arc a = find(number);
            return a == null ? -1 : a.turned ? 1 : 0;
        }

        int layer(int v) {
            know();
            return v < 0 || v >= nodes ? -1 : layer[v];
        }

        int layers() {
            know();
            int most = 0;
            for (int l : layer) most = Math.max(most, l + 1);
            return most;
        }

        int length() {
            know();
            return lengthOf(layer);
        }

        int bends() {
            know();
            return bendCount;
        }

        List<int[]> piecesUnder(int l) {
            List<int[]> pieces = new ArrayList<>();
            for (Arc a : arcs) {
                for (int k = 0; k + 1 < a.items.size(); k++) {
                    if (layer[a.above()] + k == l) pieces.add(new int[] {a.items.get(k), a.items.get(k + 1)});
                }
            }
            return pieces;
        }

        int run(int rounds) {
            if (rounds < 0 || rounds > 20) return -2;
            know();
            if (bendCount > 60) return -4;
            ran = true;
            List<List<Integer>> now = new ArrayList<>();
            for (int l = 0; l < layers(); l++) now.add(new ArrayList<>());
            for (int v = 0; v < nodes; v++) now.get(layer[v]).add(v);
            for (Arc a : arcs) {
                for (int k = 1; k + 1 < a.items.size(); k++) now.get(layer[a.above()] + k).add(a.items.get(k));
            }
            meant = copy(now);
            crossings = crossings(now);
            round = 0;
            for (int r = 1; r <= rounds; r++) {
                for (int l = 1; l < now.size(); l++) sort(now.get(l), now.get(l - 1), piecesUnder(l - 1), 1);
                for (int l = now.size() - 2; l >= 0; l--) sort(now.get(l), now.get(l + 1), piecesUnder(l), 0);
                if (crossings(now) < crossings) {
                    crossings = crossings(now);
                    meant = copy(now);
                    round = r;
                }
            }
            putPlaces();
            return crossings;
        }

        List<List<Integer>> copy(List<List<Integer>> rows) {
            List<List<Integer>> other = new ArrayList<>();
            for (List<Integer> row : rows) other.add(new ArrayList<>(row));
            return other;
        }

        void sort(List<Integer> row, List<Integer> beside, List<int[]> pieces, int own) {
            long[][] middle = new long[300][2];
            for (int item : row) {
                long sum = 0;
                long many = 0;
                for (int[] piece : pieces) {
                    if (piece[own] == item) {
                        sum += beside.indexOf(piece[1 - own]);
                        many++;
                    }
                }
                middle[item] = many == 0 ? new long[] {row.indexOf(item), 1} : new long[] {sum, many};
            }
            row.sort((p, q) -> Long.compare(middle[p][0] * middle[q][1], middle[q][0] * middle[p][1]));
        }

        int crossings(List<List<Integer>> rows) {
            int sum = 0;
            for (int l = 0; l + 1 < rows.size(); l++) {
                List<int[]> pieces = piecesUnder(l);
                int[] at = new int[300];
                for (int i = 0; i < rows.get(l).size(); i++) at[rows.get(l).get(i)] = i;
                for (int i = 0; i < rows.get(l + 1).size(); i++) at[rows.get(l + 1).get(i)] = i;
                for (int[] p : pieces) {
                    for (int[] q : pieces) {
                        if (at[p[0]] < at[q[0]] && at[p[1]] > at[q[1]]) sum++;
                    }
                }
            }
            return sum;
        }

        int widthOf(int item) {
            return item < 12 ? w[item] : 1;
        }

        void putPlaces() {
            for (int l = 0; l < meant.size(); l++) {
                int right = -1;
                for (int item : meant.get(l)) {
                    int sum = 0;
                    int many = 0;
                    if (l > 0) {
                        for (int[] piece : piecesUnder(l - 1)) {
                            if (piece[1] == item) {
                                sum += 2 * place[piece[0]] + widthOf(piece[0]);
                                many++;
                            }
                        }
                    }
                    int wants = many == 0 ? 0 : Math.floorDiv(sum, 2 * many) - Math.floorDiv(widthOf(item), 2);
                    place[item] = Math.max(Math.max(wants, 0), right + 1);
                    right = place[item] + widthOf(item);
                }
            }
        }

        int round() {
            return ran ? round : -3;
        }

        int count(int l) {
            if (!ran) return -3;
            return l < 0 || l >= meant.size() ? -1 : meant.get(l).size();
        }

        int item(int l, int i) {
            if (!ran) return -3;
            return count(l) < 0 || i < 0 || i >= count(l) ? -1 : meant.get(l).get(i);
        }

        int fewest() {
            if (!ran) return -3;
            long many = 1;
            for (List<Integer> row : meant) {
                for (int k = 2; k <= row.size(); k++) many = Math.min(1_000_000, many * k);
            }
            return many > 5000 ? -4 : fewest(copy(meant), 0, 0);
        }

        int fewest(List<List<Integer>> rows, int l, int i) {
            if (l == rows.size()) return crossings(rows);
            List<Integer> row = rows.get(l);
            if (i >= row.size()) return fewest(rows, l + 1, 0);
            int best = Integer.MAX_VALUE;
            for (int j = i; j < row.size(); j++) {
                swap(row, i, j);
                best = Math.min(best, fewest(rows, l, i + 1));
                swap(row, i, j);
            }
            return best;
        }

        void swap(List<Integer> row, int i, int j) {
            Integer kept = row.get(i);
            row.set(i, row.get(j));
            row.set(j, kept);
        }

        int place(int item) {
            if (!ran) return -3;
            boolean there = item >= 0 && item < nodes || item >= 12 && item < 12 + bendCount;
            return there ? place[item] : -1;
        }

        int route(int number, int k) {
            if (!ran) return -3;
            Arc a = find(number);
            return a == null || k < 0 || k >= a.items.size() ? -1 : a.items.get(k);
        }

        int wide() {
            if (!ran) return -3;
            int most = 0;
            for (List<Integer> row : meant) {
                for (int item : row) most = Math.max(most, place[item] + widthOf(item));
            }
            return most;
        }

        int tidy(int v) {
            if (v < 0 || v >= nodes) return -1;
            knowTurned();
            int root = -1;
            for (int u = 0; u < nodes; u++) {
                int to = 0;
                for (Arc a : arcs) to += a.to == u ? 1 : 0;
                if (to > 1 || to == 0 && root >= 0) return -3;
                if (to == 0) root = u;
            }
            if (turns != 0 || root < 0) return -3;
            int[] left = new int[12];
            put(root, left);
            int least = Integer.MAX_VALUE;
            for (int u = 0; u < nodes; u++) least = Math.min(least, left[u]);
            return left[v] - least;
        }

        void put(int v, int[] left) {
            List<Integer> children = new ArrayList<>();
            for (Arc a : arcs) {
                if (a.from == v) children.add(a.to);
            }
            left[v] = 0;
            if (children.isEmpty()) return;
            int[] right = new int[12];
            Arrays.fill(right, Integer.MIN_VALUE);
            for (int child : children) {
                put(child, left);
                // Twelve nodes of width 9 with gaps take less: here no part fits yet.
                int shift = -200;
                while (!fits(child, 0, shift, left, right)) shift++;
                shift(child, 0, shift, left, right);
            }
            int first = children.get(0);
            int last = children.get(children.size() - 1);
            left[v] = Math.floorDiv(2 * left[first] + w[first] + 2 * left[last] + w[last], 4) - w[v] / 2;
        }

        boolean fits(int v, int depth, int shift, int[] left, int[] right) {
            boolean fits = left[v] + shift >= 0
                && (right[depth] == Integer.MIN_VALUE || left[v] + shift >= right[depth] + 1);
            for (Arc a : arcs) {
                if (a.from == v) fits &= fits(a.to, depth + 1, shift, left, right);
            }
            return fits;
        }

        void shift(int v, int depth, int shift, int[] left, int[] right) {
            left[v] += shift;
            right[depth] = Math.max(right[depth], left[v] + w[v]);
            for (Arc a : arcs) {
                if (a.from == v) shift(a.to, depth + 1, shift, left, right);
            }
        }
    }
}
