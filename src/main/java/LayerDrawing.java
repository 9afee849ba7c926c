import java.util.Arrays;

/**
 * Drawings of small graphs in layers, and of trees. The words in the comments (TURNED, LAYERS,
 * MIDDLES, ..) are those of the document, DOC.md.
 */
public final class LayerDrawing {
    private static final int NO_SUCH = -1;
    private static final int OUT_OF_BOUNDS = -2;
    private static final int NOT_NOW = -3;
    private static final int NO_ROOM = -4;

    private static final int MOST_NODES = 12;
    private static final int MOST_ARCS = 24;
    private static final int MOST_WIDTH = 9;
    private static final int MOST_BENDS = 60;
    private static final int MOST_ITEMS = MOST_NODES + MOST_BENDS;
    private static final int MOST_ROUNDS = 20;
    private static final int MOST_ORDERS = 5000;

    /** A layer holds at most every node and one bend of each arc. */
    private static final int MOST_IN_ROW = MOST_NODES + MOST_ARCS;

    /** Seven items already have 5040 orders, more than MOST_ORDERS. */
    private static final int MOST_PERMUTED = 6;
    private static final int MOST_PERMUTATIONS = 720;

    /** Each push adds to a sum that can't pass 24 arcs of 11 layers: far fewer than this. */
    private static final int MOST_PUSHES = 1000;

    private final Graph graph;
    private final Turning turning;
    private final Layering layering;
    private final Pieces pieces;
    private final Orders orders;
    private final Permuting permuting;
    private final Places places;
    private final Tree tree;

    /** Whether turning and layering are those of the graph as it is. */
    private boolean settled;

    /** Whether orders and places are those of the graph as it is. */
    private boolean ran;

    /** Whether permuting has the answer for the graph as it is. */
    private boolean permuted;

    /** Whether tree is that of the graph as it is. */
    private boolean grown;

    public LayerDrawing() {
        graph = new Graph();
        turning = new Turning();
        layering = new Layering();
        pieces = new Pieces();
        orders = new Orders();
        permuting = new Permuting();
        places = new Places();
        tree = new Tree();
        settled = false;
        ran = false;
        permuted = false;
        grown = false;
    }

    public int node(int width) {
        if (!isWidth(width)) {
            return OUT_OF_BOUNDS;
        }
        if (graph.nodes >= MOST_NODES) {
            return NO_ROOM;
        }
        forgetAll();
        return graph.addNode(width);
    }

    public int width(int node, int width) {
        if (!graph.hasNode(node)) {
            return NO_SUCH;
        }
        if (!isWidth(width)) {
            return OUT_OF_BOUNDS;
        }
        forgetDrawings();
        int before = graph.widths[node];
        graph.widths[node] = width;
        return before;
    }

    public int arc(int from, int to) {
        if (!graph.hasNode(from) || !graph.hasNode(to) || from == to) {
            return NO_SUCH;
        }
        if (graph.made >= MOST_ARCS) {
            return NO_ROOM;
        }
        forgetAll();
        return graph.addArc(from, to);
    }

    public int drop(int arc) {
        if (!graph.hasArc(arc)) {
            return NO_SUCH;
        }
        forgetAll();
        graph.removeArc(arc);
        return graph.kept;
    }

    public int clear() {
        forgetAll();
        int before = graph.nodes;
        graph.empty();
        return before;
    }

    // ---- layers

    public int turns() {
        settle();
        return turning.size;
    }

    public int turned(int arc) {
        if (!graph.hasArc(arc)) {
            return NO_SUCH;
        }
        settle();
        return turning.has(arc) ? 1 : 0;
    }

    public int layer(int node) {
        if (!graph.hasNode(node)) {
            return NO_SUCH;
        }
        settle();
        return layering.layerOf[node];
    }

    public int layers() {
        settle();
        return layering.layerCount;
    }

    public int length() {
        settle();
        return layering.totalLength;
    }

    public int bends() {
        settle();
        return layering.bendCount;
    }

    // ---- orders

    public int run(int rounds) {
        if (rounds < 0 || rounds > MOST_ROUNDS) {
            return OUT_OF_BOUNDS;
        }
        settle();
        if (layering.bendCount > MOST_BENDS) {
            return NO_ROOM;
        }
        pieces.cut(graph, layering);
        orders.search(graph, layering, pieces, rounds);
        places.assign(pieces, orders);
        ran = true;
        return orders.fewestMet;
    }

    public int round() {
        return ran ? orders.roundMet : NOT_NOW;
    }

    public int count(int layer) {
        if (!ran) {
            return NOT_NOW;
        }
        if (!orders.hasLayer(layer)) {
            return NO_SUCH;
        }
        return orders.sizes[layer];
    }

    public int item(int layer, int i) {
        if (!ran) {
            return NOT_NOW;
        }
        if (!orders.hasLayer(layer) || i < 0 || i >= orders.sizes[layer]) {
            return NO_SUCH;
        }
        return orders.rows[layer][i];
    }

    public int fewest() {
        if (!ran) {
            return NOT_NOW;
        }
        if (!permuted) {
            permuting.search(pieces, orders);
            permuted = true;
        }
        return permuting.answer;
    }

    public int place(int item) {
        if (!ran) {
            return NOT_NOW;
        }
        if (!graph.hasNode(item) && !pieces.isBend(item)) {
            return NO_SUCH;
        }
        return places.leftEnds[item];
    }

    public int route(int arc, int k) {
        if (!ran) {
            return NOT_NOW;
        }
        if (!graph.hasArc(arc) || k < 0 || k > layering.span(arc)) {
            return NO_SUCH;
        }
        return pieces.itemOf(layering, arc, k);
    }

    public int wide() {
        return ran ? places.rightmost : NOT_NOW;
    }

    // ---- trees

    public int tidy(int node) {
        if (!graph.hasNode(node)) {
            return NO_SUCH;
        }
        settle();
        if (turning.size != 0 || !tree.isTree(graph)) {
            return NOT_NOW;
        }
        if (!grown) {
            tree.arrange(graph);
            grown = true;
        }
        return tree.leftEnds[node];
    }

    private static boolean isWidth(int width) {
        return width >= 1 && width <= MOST_WIDTH;
    }

    private void forgetAll() {
        settled = false;
        forgetDrawings();
    }

    /** Widths count for places alone, so a new one leaves turning and layering as they are. */
    private void forgetDrawings() {
        ran = false;
        permuted = false;
        grown = false;
    }

    private void settle() {
        if (!settled) {
            turning.search(graph);
            layering.search(graph, turning);
            settled = true;
        }
    }

    /** Nodes and arcs as they are told. */
    private static final class Graph {
        final int[] widths = new int[MOST_NODES];
        final int[] from = new int[MOST_ARCS];
        final int[] to = new int[MOST_ARCS];
        final boolean[] there = new boolean[MOST_ARCS];
        int nodes = 0;

        /** Arcs ever made, dropped ones too: numbers below it are used up. */
        int made = 0;

        /** Arcs that are there. */
        int kept = 0;

        boolean hasNode(int number) {
            return number >= 0 && number < nodes;
        }

        boolean hasArc(int number) {
            return number >= 0 && number < made && there[number];
        }

        int addNode(int nodeWidth) {
            widths[nodes] = nodeWidth;
            nodes++;
            return nodes - 1;
        }

        int addArc(int start, int end) {
            from[made] = start;
            to[made] = end;
            there[made] = true;
            kept++;
            made++;
            return made - 1;
        }

        void removeArc(int number) {
            there[number] = false;
            kept--;
        }

        void empty() {
            nodes = 0;
            made = 0;
            kept = 0;
        }
    }

    /**
     * The TURNED arcs. In an order of the nodes the arcs that lead back are a set that leaves no
     * way round, and the smallest sets all come so; the best order is built up by the sets of
     * nodes that stand in front.
     */
    private static final class Turning {
        /** Above the sum of all marks, so that fewer arcs are always cheaper. */
        private static final int FULL_PRICE = 1 << MOST_ARCS;

        final int[] costs = new int[1 << MOST_NODES];
        final int[] prices = new int[MOST_NODES * MOST_NODES];
        final int[] followers = new int[MOST_NODES];

        /** The turned arcs' marks, each a bit. */
        int marks = 0;
        int size = 0;

        boolean has(int number) {
            return (marks & mark(number)) != 0;
        }

        void search(Graph graph) {
            int core = nodesOnWaysRound(graph);
            int cost = 0;
            if (core != 0) {
                setPrices(graph, core);
                cost = leastCost(core);
            }
            // A cost is FULL_PRICE for each arc less the arcs' marks, so it tells the set itself.
            size = (cost + FULL_PRICE - 1) / FULL_PRICE;
            marks = size * FULL_PRICE - cost;
        }

        /** Of as many arcs the dearest marks win, so a lower number weighs more than all above. */
        private static int mark(int number) {
            return 1 << (MOST_ARCS - 1 - number);
        }

        /** Arcs at nodes that nothing leads to, or from, are on no way round: less to search. */
        private static int nodesOnWaysRound(Graph graph) {
            int left = (1 << graph.nodes) - 1;
            for (int pass = 0; pass < graph.nodes; pass++) {
                int starts = 0;
                int ends = 0;
                for (int a = 0; a < graph.made; a++) {
                    int start = 1 << graph.from[a];
                    int end = 1 << graph.to[a];
                    if (graph.there[a] && (left & start) != 0 && (left & end) != 0) {
                        starts |= start;
                        ends |= end;
                    }
                }
                left &= starts & ends;
            }
            return left;
        }

        private void setPrices(Graph graph, int core) {
            Arrays.fill(prices, 0);
            Arrays.fill(followers, 0);
            for (int a = 0; a < graph.made; a++) {
                int start = graph.from[a];
                int end = graph.to[a];
                if (graph.there[a] && (core >> start & 1) != 0 && (core >> end & 1) != 0) {
                    prices[start * MOST_NODES + end] += FULL_PRICE - mark(a);
                    followers[start] |= 1 << end;
                }
            }
        }

        private int leastCost(int core) {
            costs[0] = 0;
            for (int front = 1; front <= core; front++) {
                if ((front & ~core) == 0) {
                    costs[front] = costOfFront(front);
                }
            }
            return costs[core];
        }

        private int costOfFront(int front) {
            int best = Integer.MAX_VALUE;
            for (int last = 0; last < MOST_NODES; last++) {
                if ((front >> last & 1) != 0) {
                    best = Math.min(best, costs[front ^ 1 << last] + priceBack(last, front));
                }
            }
            return best;
        }

        private int priceBack(int last, int front) {
            int sum = 0;
            int reached = followers[last] & front;
            for (int end = 0; end < MOST_NODES && reached >> end != 0; end++) {
                if ((reached >> end & 1) != 0) {
                    sum += prices[last * MOST_NODES + end];
                }
            }
            return sum;
        }
    }

    /**
     * The LAYERS. The least length is the most that a flow can carry which gives each node what
     * one unit on every arc gives it; layers are of least length when each arc that carries
     * something is one layer long. So: raise the layers from 0 as these rules ask; if they rise
     * without end, a round way of the rules tells where the flow can be made larger. What comes
     * out at last is the least of all such layers, for every node at once.
     */
    private static final class Layering {
        private static final int NONE = -1;

        final int[] upper = new int[MOST_ARCS];
        final int[] lower = new int[MOST_ARCS];
        final int[] flow = new int[MOST_ARCS];
        final int[] layerOf = new int[MOST_NODES];

        /** What raised a node last: an arc from above, or MOST_ARCS more for one from below. */
        final int[] raisedBy = new int[MOST_NODES];
        int layerCount = 0;
        int totalLength = 0;
        int bendCount = 0;

        int span(int number) {
            return layerOf[lower[number]] - layerOf[upper[number]];
        }

        void search(Graph graph, Turning turning) {
            for (int a = 0; a < graph.made; a++) {
                boolean back = turning.has(a);
                upper[a] = back ? graph.to[a] : graph.from[a];
                lower[a] = back ? graph.from[a] : graph.to[a];
            }
            Arrays.fill(flow, 1);
            int risen = raise(graph);
            for (int push = 0; push < MOST_PUSHES && risen != NONE; push++) {
                enlargeFlow(graph.nodes, risen);
                risen = raise(graph);
            }
            measure(graph);
        }

        /** NONE if the layers came to rest, else a node that still rose in the last pass. */
        private int raise(Graph graph) {
            Arrays.fill(layerOf, 0);
            Arrays.fill(raisedBy, NONE);
            int risen = NONE;
            for (int pass = 0; pass <= graph.nodes; pass++) {
                risen = NONE;
                for (int a = 0; a < graph.made; a++) {
                    if (graph.there[a]) {
                        risen = Math.max(risen, raiseEnds(a));
                    }
                }
                if (risen == NONE) {
                    break;
                }
            }
            return risen;
        }

        private int raiseEnds(int a) {
            int above = upper[a];
            int below = lower[a];
            if (layerOf[below] < layerOf[above] + 1) {
                layerOf[below] = layerOf[above] + 1;
                raisedBy[below] = a;
                return below;
            }
            if (flow[a] > 0 && layerOf[above] < layerOf[below] - 1) {
                layerOf[above] = layerOf[below] - 1;
                raisedBy[above] = MOST_ARCS + a;
                return above;
            }
            return NONE;
        }

        private void enlargeFlow(int nodes, int risen) {
            int start = risen;
            for (int step = 0; step < nodes; step++) {
                start = raiser(start);
            }
            int most = Integer.MAX_VALUE;
            int at = start;
            for (int step = 0; step < nodes && (step == 0 || at != start); step++) {
                if (raisedBy[at] >= MOST_ARCS) {
                    most = Math.min(most, flow[raisedBy[at] - MOST_ARCS]);
                }
                at = raiser(at);
            }
            at = start;
            for (int step = 0; step < nodes && (step == 0 || at != start); step++) {
                addFlow(raisedBy[at], most);
                at = raiser(at);
            }
        }

        private int raiser(int at) {
            int by = raisedBy[at];
            if (by == NONE) {
                return at;
            }
            return by < MOST_ARCS ? upper[by] : lower[by - MOST_ARCS];
        }

        private void addFlow(int by, int amount) {
            if (by >= MOST_ARCS) {
                flow[by - MOST_ARCS] -= amount;
            } else if (by != NONE) {
                flow[by] += amount;
            }
        }

        private void measure(Graph graph) {
            layerCount = 0;
            for (int v = 0; v < graph.nodes; v++) {
                layerCount = Math.max(layerCount, layerOf[v] + 1);
            }
            totalLength = 0;
            for (int a = 0; a < graph.made; a++) {
                if (graph.there[a]) {
                    totalLength += span(a);
                }
            }
            bendCount = totalLength - graph.kept;
        }
    }

    /** The BENDS' numbers, the ITEMS' widths and the PIECES; for at most MOST_BENDS bends. */
    private static final class Pieces {
        final int[] firstBend = new int[MOST_ARCS];
        final int[] itemWidths = new int[MOST_ITEMS];

        /** Of the pieces from each layer to the next: how many, their upper and lower items. */
        final int[] counts = new int[MOST_NODES];
        final int[][] tops = new int[MOST_NODES][MOST_ARCS];
        final int[][] feet = new int[MOST_NODES][MOST_ARCS];

        /** One above the last bend's number. */
        int end = MOST_NODES;

        boolean isBend(int number) {
            return number >= MOST_NODES && number < end;
        }

        int itemOf(Layering layering, int a, int step) {
            if (step == 0) {
                return layering.upper[a];
            }
            return step == layering.span(a) ? layering.lower[a] : firstBend[a] + step - 1;
        }

        void cut(Graph graph, Layering layering) {
            Arrays.fill(itemWidths, 1);
            System.arraycopy(graph.widths, 0, itemWidths, 0, graph.nodes);
            Arrays.fill(counts, 0);
            end = MOST_NODES;
            for (int a = 0; a < graph.made; a++) {
                if (graph.there[a]) {
                    firstBend[a] = end;
                    end += layering.span(a) - 1;
                    cutArc(layering, a);
                }
            }
        }

        private void cutArc(Layering layering, int a) {
            int span = layering.span(a);
            int top = layering.layerOf[layering.upper[a]];
            for (int step = 0; step < span; step++) {
                int gap = top + step;
                tops[gap][counts[gap]] = itemOf(layering, a, step);
                feet[gap][counts[gap]] = itemOf(layering, a, step + 1);
                counts[gap]++;
            }
        }
    }

    /** The ORDERS: after a search rows, sizes and at are those of the order that is MEANT. */
    private static final class Orders {
        final int[] sizes = new int[MOST_NODES];
        final int[][] rows = new int[MOST_NODES][MOST_IN_ROW];
        final int[][] meant = new int[MOST_NODES][MOST_IN_ROW];

        /** Where each item stands in its layer. */
        final int[] at = new int[MOST_ITEMS];

        /** A middle is sums by joined: compared as a fraction, so that nothing is rounded. */
        final int[] sums = new int[MOST_ITEMS];
        final int[] joined = new int[MOST_ITEMS];
        int layerCount = 0;
        int fewestMet = 0;
        int roundMet = 0;

        boolean hasLayer(int number) {
            return number >= 0 && number < layerCount;
        }

        void search(Graph graph, Layering layering, Pieces pieces, int rounds) {
            standByNumbers(graph, layering, pieces);
            fewestMet = crossings(pieces);
            roundMet = 0;
            copyRows(rows, meant);
            // Nothing is below 0 crossings, so the rounds behind such an order can't matter.
            for (int r = 1; r <= rounds && fewestMet > 0; r++) {
                sweep(pieces);
                int met = crossings(pieces);
                if (met < fewestMet) {
                    fewestMet = met;
                    roundMet = r;
                    copyRows(rows, meant);
                }
            }
            copyRows(meant, rows);
            for (int level = 0; level < layerCount; level++) {
                numberRow(level);
            }
        }

        private void standByNumbers(Graph graph, Layering layering, Pieces pieces) {
            layerCount = layering.layerCount;
            Arrays.fill(sizes, 0);
            for (int v = 0; v < graph.nodes; v++) {
                append(layering.layerOf[v], v);
            }
            for (int a = 0; a < graph.made; a++) {
                int inner = graph.there[a] ? layering.span(a) : 0;
                for (int step = 1; step < inner; step++) {
                    int level = layering.layerOf[layering.upper[a]] + step;
                    append(level, pieces.itemOf(layering, a, step));
                }
            }
        }

        private void append(int level, int number) {
            rows[level][sizes[level]] = number;
            at[number] = sizes[level];
            sizes[level]++;
        }

        private void copyRows(int[][] source, int[][] target) {
            for (int level = 0; level < layerCount; level++) {
                System.arraycopy(source[level], 0, target[level], 0, sizes[level]);
            }
        }

        private void sweep(Pieces pieces) {
            for (int level = 1; level < layerCount; level++) {
                int gap = level - 1;
                findMiddles(level, pieces.counts[gap], pieces.feet[gap], pieces.tops[gap]);
                sortRow(level);
            }
            for (int level = layerCount - 2; level >= 0; level--) {
                findMiddles(level, pieces.counts[level], pieces.tops[level], pieces.feet[level]);
                sortRow(level);
            }
        }

        private void findMiddles(int level, int count, int[] own, int[] others) {
            for (int i = 0; i < sizes[level]; i++) {
                sums[rows[level][i]] = 0;
                joined[rows[level][i]] = 0;
            }
            for (int p = 0; p < count; p++) {
                sums[own[p]] += at[others[p]];
                joined[own[p]]++;
            }
            for (int i = 0; i < sizes[level]; i++) {
                int number = rows[level][i];
                if (joined[number] == 0) {
                    sums[number] = i;
                    joined[number] = 1;
                }
            }
        }

        /** By insertion, which lets items of the same middle stay as they stood. */
        private void sortRow(int level) {
            int[] row = rows[level];
            for (int i = 1; i < sizes[level]; i++) {
                int number = row[i];
                int free = i;
                while (free > 0 && isBefore(number, row[free - 1])) {
                    row[free] = row[free - 1];
                    free--;
                }
                row[free] = number;
            }
            numberRow(level);
        }

        private boolean isBefore(int one, int other) {
            return sums[one] * joined[other] < sums[other] * joined[one];
        }

        private void numberRow(int level) {
            for (int i = 0; i < sizes[level]; i++) {
                at[rows[level][i]] = i;
            }
        }

        private int crossings(Pieces pieces) {
            int sum = 0;
            for (int gap = 0; gap < layerCount - 1; gap++) {
                sum += crossingsIn(pieces.counts[gap], pieces.tops[gap], pieces.feet[gap]);
            }
            return sum;
        }

        private int crossingsIn(int count, int[] tops, int[] feet) {
            int sum = 0;
            for (int p = 1; p < count; p++) {
                for (int q = 0; q < p; q++) {
                    int above = at[tops[p]] - at[tops[q]];
                    int below = at[feet[p]] - at[feet[q]];
                    if (above < 0 && below > 0 || above > 0 && below < 0) {
                        sum++;
                    }
                }
            }
            return sum;
        }
    }

    /**
     * The fewest crossings of all orders. Crossings join only neighbouring layers, so for each
     * order of a layer the least sum down to it is enough. Items are told by where they stand in
     * the order that is MEANT.
     */
    private static final class Permuting {
        final int[] best = new int[MOST_PERMUTATIONS];
        final int[] next = new int[MOST_PERMUTATIONS];
        final int[] upperOrder = new int[MOST_PERMUTED];
        final int[] upperAt = new int[MOST_PERMUTED];
        final int[] lowerOrder = new int[MOST_PERMUTED];

        /** How many crossings two lower items have, if the first one stands before the second. */
        final int[] prices = new int[MOST_PERMUTED * MOST_PERMUTED];
        int answer = 0;

        void search(Pieces pieces, Orders orders) {
            if (hasTooMany(orders)) {
                answer = NO_ROOM;
                return;
            }
            Arrays.fill(best, 0);
            for (int gap = 0; gap < orders.layerCount - 1; gap++) {
                goDown(pieces, orders, gap);
            }
            answer = 0;
            if (orders.layerCount > 0) {
                answer = least(permutations(orders.sizes[orders.layerCount - 1]));
            }
        }

        private static boolean hasTooMany(Orders orders) {
            int product = 1;
            for (int level = 0; level < orders.layerCount; level++) {
                for (int k = 2; k <= orders.sizes[level]; k++) {
                    product *= k;
                    if (product > MOST_ORDERS) {
                        return true;
                    }
                }
            }
            return false;
        }

        private static int permutations(int size) {
            int product = 1;
            for (int k = 2; k <= size; k++) {
                product *= k;
            }
            return product;
        }

        private int least(int count) {
            int found = best[0];
            for (int p = 1; p < count; p++) {
                found = Math.min(found, best[p]);
            }
            return found;
        }

        private void goDown(Pieces pieces, Orders orders, int gap) {
            int upperSize = orders.sizes[gap];
            int lowerSize = orders.sizes[gap + 1];
            int upperCount = permutations(upperSize);
            int lowerCount = permutations(lowerSize);
            Arrays.fill(next, Integer.MAX_VALUE);
            standFirst(upperOrder);
            for (int p = 0; p < upperCount; p++) {
                setPrices(pieces, orders, gap);
                standFirst(lowerOrder);
                for (int q = 0; q < lowerCount; q++) {
                    next[q] = Math.min(next[q], best[p] + price(lowerSize));
                    standNext(lowerOrder, lowerSize);
                }
                standNext(upperOrder, upperSize);
            }
            System.arraycopy(next, 0, best, 0, lowerCount);
        }

        private void setPrices(Pieces pieces, Orders orders, int gap) {
            Arrays.fill(prices, 0);
            for (int i = 0; i < MOST_PERMUTED; i++) {
                upperAt[upperOrder[i]] = i;
            }
            int[] tops = pieces.tops[gap];
            int[] feet = pieces.feet[gap];
            for (int p = 0; p < pieces.counts[gap]; p++) {
                for (int q = 0; q < pieces.counts[gap]; q++) {
                    if (upperAt[orders.at[tops[p]]] > upperAt[orders.at[tops[q]]]) {
                        prices[orders.at[feet[p]] * MOST_PERMUTED + orders.at[feet[q]]]++;
                    }
                }
            }
        }

        private int price(int size) {
            int sum = 0;
            for (int i = 0; i < size; i++) {
                for (int j = i + 1; j < size; j++) {
                    sum += prices[lowerOrder[i] * MOST_PERMUTED + lowerOrder[j]];
                }
            }
            return sum;
        }

        private static void standFirst(int[] order) {
            for (int i = 0; i < MOST_PERMUTED; i++) {
                order[i] = i;
            }
        }

        /** The next order of the first ones by the alphabet; behind the last one nothing moves. */
        private static void standNext(int[] order, int size) {
            int turn = size - 2;
            while (turn >= 0 && order[turn] > order[turn + 1]) {
                turn--;
            }
            if (turn < 0) {
                return;
            }
            int other = size - 1;
            while (other > turn && order[other] < order[turn]) {
                other--;
            }
            exchange(order, turn, other);
            int behind = size - 1 - turn;
            for (int i = 0; i < behind / 2; i++) {
                exchange(order, turn + 1 + i, size - 1 - i);
            }
        }

        private static void exchange(int[] order, int i, int j) {
            int kept = order[i];
            order[i] = order[j];
            order[j] = kept;
        }
    }

    /** The PLACES of the items in the order that is MEANT. */
    private static final class Places {
        final int[] leftEnds = new int[MOST_ITEMS];
        final int[] sums = new int[MOST_ITEMS];
        final int[] joined = new int[MOST_ITEMS];
        int rightmost = 0;

        void assign(Pieces pieces, Orders orders) {
            Arrays.fill(sums, 0);
            Arrays.fill(joined, 0);
            rightmost = 0;
            for (int level = 0; level < orders.layerCount; level++) {
                if (level > 0) {
                    lookUp(pieces, level - 1);
                }
                int free = 0;
                for (int i = 0; i < orders.sizes[level]; i++) {
                    int number = orders.rows[level][i];
                    int wide = pieces.itemWidths[number];
                    leftEnds[number] = Math.max(free, wanted(number, wide));
                    rightmost = Math.max(rightmost, leftEnds[number] + wide);
                    free = leftEnds[number] + wide + 1;
                }
            }
        }

        private void lookUp(Pieces pieces, int gap) {
            for (int p = 0; p < pieces.counts[gap]; p++) {
                int top = pieces.tops[gap][p];
                int foot = pieces.feet[gap][p];
                sums[foot] += 2 * leftEnds[top] + pieces.itemWidths[top];
                joined[foot]++;
            }
        }

        private int wanted(int number, int wide) {
            if (joined[number] == 0) {
                return 0;
            }
            return sums[number] / (2 * joined[number]) - wide / 2;
        }
    }

    /** The TIDY places of a tree. A part is a node with all below it, kept as a set of bits. */
    private static final class Tree {
        private static final int NONE = -1;

        final int[] leftEnds = new int[MOST_NODES];
        final int[] parents = new int[MOST_NODES];
        final int[] depths = new int[MOST_NODES];
        final int[] parts = new int[MOST_NODES];

        /** For a graph without ways round. */
        boolean isTree(Graph graph) {
            Arrays.fill(parents, NONE);
            for (int a = 0; a < graph.made; a++) {
                if (graph.there[a]) {
                    int child = graph.to[a];
                    if (parents[child] != NONE) {
                        return false;
                    }
                    parents[child] = graph.from[a];
                }
            }
            return graph.kept == graph.nodes - 1;
        }

        /** For a graph that isTree() has just looked at and found to be one. */
        void arrange(Graph graph) {
            for (int v = 0; v < graph.nodes; v++) {
                depths[v] = depthOf(v);
            }
            for (int depth = graph.nodes - 1; depth >= 0; depth--) {
                for (int v = 0; v < graph.nodes; v++) {
                    if (depths[v] == depth) {
                        putPart(graph, v);
                    }
                }
            }
            int all = (1 << graph.nodes) - 1;
            move(all, shiftBehind(graph, 0, all));
        }

        private int depthOf(int v) {
            int depth = 0;
            int at = parents[v];
            while (at != NONE && depth < MOST_NODES) {
                at = parents[at];
                depth++;
            }
            return depth;
        }

        private void putPart(Graph graph, int v) {
            int before = 0;
            int first = NONE;
            int last = NONE;
            for (int a = 0; a < graph.made; a++) {
                if (graph.there[a] && graph.from[a] == v) {
                    last = graph.to[a];
                    first = first == NONE ? last : first;
                    move(parts[last], shiftBehind(graph, before, parts[last]));
                    before |= parts[last];
                }
            }
            parts[v] = before | 1 << v;
            leftEnds[v] = 0;
            if (first != NONE) {
                int middles = twiceMiddle(graph, first) + twiceMiddle(graph, last);
                leftEnds[v] = Math.floorDiv(middles, 4) - graph.widths[v] / 2;
            }
        }

        private int twiceMiddle(Graph graph, int v) {
            return 2 * leftEnds[v] + graph.widths[v];
        }

        /** How far a part goes, so that none of it is left of 0 or too near to those before. */
        private int shiftBehind(Graph graph, int before, int part) {
            int shift = -leftmost(graph.nodes, part);
            for (int v = 0; v < graph.nodes; v++) {
                for (int u = 0; u < graph.nodes; u++) {
                    boolean near = depths[u] == depths[v];
                    if (near && (part >> v & 1) != 0 && (before >> u & 1) != 0) {
                        shift = Math.max(shift, leftEnds[u] + graph.widths[u] + 1 - leftEnds[v]);
                    }
                }
            }
            return shift;
        }

        private int leftmost(int nodes, int part) {
            int least = Integer.MAX_VALUE;
            for (int v = 0; v < nodes; v++) {
                if ((part >> v & 1) != 0) {
                    least = Math.min(least, leftEnds[v]);
                }
            }
            return least;
        }

        private void move(int part, int shift) {
            for (int v = 0; v < MOST_NODES; v++) {
                if ((part >> v & 1) != 0) {
                    leftEnds[v] += shift;
                }
            }
        }
    }
}
