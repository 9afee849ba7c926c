/** Each promise of the document: ordinary inputs, the edges that it names, and wrong inputs. */
public final class PromisesTest {
    private static final int[] WRONG = {-1, 12, 24, 72, 1000, Integer.MIN_VALUE, Integer.MAX_VALUE};

    private static int wrong = 0;
    private static int promise = 0;

    private static void due(String call, int got, int want) {
        if (got != want) {
            wrong++;
            System.out.println("promise " + promise + ": " + call + " answered " + got + ", due is " + want);
        }
    }

    public static void main(String[] args) {
        newObject();
        nodes();
        widths();
        arcs();
        drops();
        clears();
        turns();
        turned();
        layer();
        layers();
        length();
        bends();
        run();
        runIsForgotten();
        round();
        count();
        item();
        fewest();
        place();
        route();
        wide();
        tidy();
        System.out.println(wrong == 0 ? "all answers are as due" : wrong + " answers are not as due");
        if (wrong != 0) {
            System.exit(1);
        }
    }

    /** So many nodes of one width, and arcs told as from, to, from, to, .. */
    private static LayerDrawing graph(int nodes, int width, int... ends) {
        LayerDrawing x = new LayerDrawing();
        for (int i = 0; i < nodes; i++) {
            x.node(width);
        }
        for (int i = 0; i + 1 < ends.length; i += 2) {
            x.arc(ends[i], ends[i + 1]);
        }
        return x;
    }

    /** Twelve nodes one below the other, and so many arcs more from the first to the last. */
    private static LayerDrawing tower(int longArcs) {
        LayerDrawing x = graph(12, 1);
        for (int i = 1; i < 12; i++) {
            x.arc(i - 1, i);
        }
        for (int i = 0; i < longArcs; i++) {
            x.arc(0, 11);
        }
        return x;
    }

    private static void orderDue(LayerDrawing x, int layer, int... items) {
        due("count(" + layer + ")", x.count(layer), items.length);
        for (int i = 0; i < items.length; i++) {
            due("item(" + layer + ", " + i + ")", x.item(layer, i), items[i]);
        }
        due("item(" + layer + ", " + items.length + ")", x.item(layer, items.length), -1);
    }

    private static void newObject() {
        promise = 1;
        LayerDrawing x = new LayerDrawing();
        due("layers()", x.layers(), 0);
        due("layer(0)", x.layer(0), -1);
        due("width(0, 1)", x.width(0, 1), -1);
        due("arc(0, 1)", x.arc(0, 1), -1);
        due("drop(0)", x.drop(0), -1);
        due("turned(0)", x.turned(0), -1);
        due("round()", x.round(), -3);
        due("wide()", x.wide(), -3);
        due("tidy(0)", x.tidy(0), -1);
        due("clear()", x.clear(), 0);
        due("node(4)", x.node(4), 0);
    }

    private static void nodes() {
        promise = 2;
        LayerDrawing x = new LayerDrawing();
        int[] bad = {0, 10, -1, Integer.MIN_VALUE, Integer.MAX_VALUE};
        for (int w : bad) {
            due("node(" + w + ")", x.node(w), -2);
        }
        for (int i = 0; i < 12; i++) {
            int w = i == 0 ? 1 : i == 1 ? 9 : 5;
            due("node(" + w + ")", x.node(w), i);
        }
        due("node(5) without room", x.node(5), -4);
        due("node(0) without room", x.node(0), -2);
        due("width(11, 5)", x.width(11, 5), 5);
        due("layer(11)", x.layer(11), 0);
        due("clear()", x.clear(), 12);
    }

    private static void widths() {
        promise = 3;
        LayerDrawing x = graph(2, 3);
        due("width(0, 9)", x.width(0, 9), 3);
        due("width(0, 1)", x.width(0, 1), 9);
        due("width(1, 4)", x.width(1, 4), 3);
        due("width(0, 0)", x.width(0, 0), -2);
        due("width(0, 10)", x.width(0, 10), -2);
        due("width(0, 2)", x.width(0, 2), 1);
        due("width(2, 2)", x.width(2, 2), -1);
        for (int v : WRONG) {
            due("width(" + v + ", 0)", x.width(v, 0), -1);
        }
    }

    private static void arcs() {
        promise = 4;
        LayerDrawing x = graph(3, 1);
        for (int v : WRONG) {
            due("arc(0, " + v + ")", x.arc(0, v), -1);
            due("arc(" + v + ", 0)", x.arc(v, 0), -1);
        }
        due("arc(0, 3)", x.arc(0, 3), -1);
        due("arc(1, 1)", x.arc(1, 1), -1);
        for (int a = 0; a < 23; a++) {
            due("arc(0, 1)", x.arc(0, 1), a);
        }
        due("drop(5)", x.drop(5), 22);
        due("arc(1, 2)", x.arc(1, 2), 23);
        due("arc(1, 2) without room", x.arc(1, 2), -4);
        due("arc(1, 1) without room", x.arc(1, 1), -1);
        due("arc(1, 3) without room", x.arc(1, 3), -1);
        due("length()", x.length(), 23);
    }

    private static void drops() {
        promise = 5;
        LayerDrawing x = graph(3, 1, 0, 1, 1, 2, 0, 1);
        due("drop(3)", x.drop(3), -1);
        for (int a : WRONG) {
            due("drop(" + a + ")", x.drop(a), -1);
        }
        due("drop(1)", x.drop(1), 2);
        due("drop(1) again", x.drop(1), -1);
        due("layer(2)", x.layer(2), 0);
        due("turned(1)", x.turned(1), -1);
        due("arc(1, 2)", x.arc(1, 2), 3);
        due("drop(0)", x.drop(0), 2);
        due("drop(2)", x.drop(2), 1);
        due("drop(3)", x.drop(3), 0);
        due("length()", x.length(), 0);
    }

    private static void clears() {
        promise = 6;
        LayerDrawing x = tower(13);
        due("arc(0, 1) without room", x.arc(0, 1), -4);
        due("clear()", x.clear(), 12);
        due("clear() again", x.clear(), 0);
        due("layers()", x.layers(), 0);
        due("length()", x.length(), 0);
        due("drop(0)", x.drop(0), -1);
        due("node(2)", x.node(2), 0);
        due("node(2)", x.node(2), 1);
        due("turned(0)", x.turned(0), -1);
        due("arc(1, 0)", x.arc(1, 0), 0);
        due("drop(0)", x.drop(0), 0);
    }

    private static void turns() {
        promise = 7;
        due("turns() of none", new LayerDrawing().turns(), 0);
        due("turns() of a way down", graph(3, 1, 0, 1, 1, 2, 0, 2).turns(), 0);
        due("turns() of two rounds", graph(4, 1, 0, 1, 1, 0, 2, 3, 3, 2).turns(), 2);
        due("turns() of two with one arc in common", graph(4, 1, 0, 1, 1, 2, 2, 0, 2, 3, 3, 1).turns(), 1);
        due("turns() of arcs alike", graph(2, 1, 0, 1, 1, 0, 0, 1, 1, 0, 0, 1).turns(), 2);
        LayerDrawing x = new LayerDrawing();
        for (int i = 0; i < 12; i++) {
            x.node(1);
        }
        for (int i = 0; i < 12; i++) {
            x.arc(i, (i + 1) % 12);
            x.arc((i + 1) % 12, i);
        }
        due("turns() of twelve both ways", x.turns(), 12);
        // One arc of each pair must go, and not all of one way round: 11 of one, 1 of the other.
        for (int a = 0; a < 22; a += 2) {
            due("turned(" + a + ")", x.turned(a), 1);
            due("turned(" + (a + 1) + ")", x.turned(a + 1), 0);
        }
        due("turned(22)", x.turned(22), 0);
        due("turned(23)", x.turned(23), 1);
    }

    private static void turned() {
        promise = 8;
        LayerDrawing x = graph(4, 1, 0, 1, 1, 2, 2, 0, 2, 3, 3, 1);
        int[] want = {0, 1, 0, 0, 0};
        for (int a = 0; a < 5; a++) {
            due("turned(" + a + ")", x.turned(a), want[a]);
        }
        due("turned(5)", x.turned(5), -1);
        for (int a : WRONG) {
            due("turned(" + a + ")", x.turned(a), -1);
        }
        x.drop(1);
        due("turned(1)", x.turned(1), -1);
        due("turned(0)", x.turned(0), 0);
        LayerDrawing y = graph(2, 1, 0, 1, 0, 1, 1, 0);
        due("turned(0)", y.turned(0), 0);
        due("turned(2)", y.turned(2), 1);
        due("the first of two", graph(2, 1, 1, 0, 0, 1).turned(0), 1);
    }

    private static void layer() {
        promise = 9;
        LayerDrawing x = graph(6, 1, 0, 1, 1, 2, 3, 2, 4, 5);
        int[] want = {0, 1, 2, 1, 0, 1};
        for (int v = 0; v < 6; v++) {
            due("layer(" + v + ")", x.layer(v), want[v]);
        }
        due("layer(6)", x.layer(6), -1);
        for (int v : WRONG) {
            due("layer(" + v + ")", x.layer(v), -1);
        }
        // Node 1 may be in layer 1 or 2 for the same length: the least one is meant.
        LayerDrawing y = graph(5, 1, 0, 1, 1, 2, 0, 3, 3, 4, 4, 2);
        due("layer(1)", y.layer(1), 1);
        due("layer(2)", y.layer(2), 3);
        // Two arcs below against one above draw node 1 down.
        LayerDrawing z = graph(6, 1, 0, 1, 1, 4, 1, 5, 0, 2, 2, 3, 3, 4, 3, 5);
        due("layer(1) with more below", z.layer(1), 2);
        LayerDrawing back = graph(3, 1, 0, 1, 1, 2, 2, 0);
        due("layer(0) below its arc turned", back.layer(0), 2);
        due("layer(1)", back.layer(1), 0);
    }

    private static void layers() {
        promise = 10;
        due("layers() of none", new LayerDrawing().layers(), 0);
        due("layers() without arcs", graph(3, 1).layers(), 1);
        due("layers() of a tower", tower(0).layers(), 12);
        LayerDrawing x = graph(5, 1, 0, 1, 1, 2, 3, 4);
        due("layers()", x.layers(), 3);
        x.drop(1);
        due("layers()", x.layers(), 2);
    }

    private static void length() {
        promise = 11;
        due("length() of none", new LayerDrawing().length(), 0);
        due("length() without arcs", graph(4, 1).length(), 0);
        due("length()", graph(4, 1, 0, 1, 1, 2, 3, 2).length(), 3);
        due("length() of arcs alike", graph(3, 1, 0, 1, 1, 2, 0, 2, 0, 2).length(), 6);
        due("length() of a tower", tower(13).length(), 11 + 13 * 11);
        due("length() with one turned", graph(3, 1, 0, 1, 1, 2, 2, 0).length(), 4);
    }

    private static void bends() {
        promise = 12;
        due("bends() of none", new LayerDrawing().bends(), 0);
        due("bends()", graph(4, 1, 0, 1, 1, 2, 2, 3, 0, 3, 1, 3).bends(), 3);
        due("bends() of a tower", tower(13).bends(), 130);
        LayerDrawing x = tower(1);
        due("bends()", x.bends(), 10);
        x.drop(11);
        due("bends() without the long arc", x.bends(), 0);
    }

    private static void run() {
        promise = 13;
        LayerDrawing x = graph(4, 1, 0, 3, 1, 2);
        int[] bad = {-1, 21, Integer.MIN_VALUE, Integer.MAX_VALUE};
        for (int r : bad) {
            due("run(" + r + ")", x.run(r), -2);
        }
        due("round() behind refusals", x.round(), -3);
        due("run(0)", x.run(0), 1);
        due("run(1)", x.run(1), 0);
        due("run(21)", x.run(21), -2);
        due("round() behind a refusal", x.round(), 1);
        due("run(0) starts anew", x.run(0), 1);
        due("run(20)", x.run(20), 0);
        due("run(20) of none", new LayerDrawing().run(20), 0);
        due("run(0) with an arc twice", graph(4, 1, 0, 3, 0, 3, 1, 2).run(0), 2);
        due("run(3) of three by three", graph(6, 1, 0, 3, 0, 4, 0, 5, 1, 3, 1, 4, 1, 5, 2, 3, 2, 4, 2, 5).run(3), 9);
        due("run(0) with ends in common", graph(3, 1, 0, 1, 0, 2).run(0), 0);
        // One by two and one by three: an order by whole numbers would keep the two crossings.
        due("run(1) by fractions", graph(4, 1, 0, 2, 1, 2, 0, 3, 0, 3, 1, 3).run(1), 1);
        LayerDrawing full = tower(6);
        due("run(20) with 60 bends", full.run(20), 0);
        due("place(71)", full.place(71), 12);
        due("place(72)", full.place(72), -1);
        full.arc(0, 2);
        due("bends()", full.bends(), 61);
        due("run(1) with 61 bends", full.run(1), -4);
        due("run(21) with 61 bends", full.run(21), -2);
        due("round() with 61 bends", full.round(), -3);
    }

    /** Calls that are refused change nothing, those that change the graph end what run() tells. */
    private static void runIsForgotten() {
        for (int change = 0; change < 10; change++) {
            LayerDrawing x = graph(3, 2, 0, 1, 0, 2);
            due("run(0)", x.run(0), 0);
            due("fewest()", x.fewest(), 0);
            switch (change) {
                case 0: x.node(1); break;
                case 1: x.width(0, 5); break;
                case 2: x.arc(1, 2); break;
                case 3: x.drop(0); break;
                case 4: x.clear(); break;
                case 5: x.node(0); break;
                case 6: x.width(0, 10); break;
                case 7: x.arc(0, 3); break;
                case 8: x.drop(2); break;
                default: x.tidy(0); break;
            }
            boolean told = change >= 5;
            due("round() behind change " + change, x.round(), told ? 0 : -3);
            due("count(0) behind change " + change, x.count(0), told ? 1 : -3);
            due("count(9) behind change " + change, x.count(9), told ? -1 : -3);
            due("item(1, 1) behind change " + change, x.item(1, 1), told ? 2 : -3);
            due("item(1, 2) behind change " + change, x.item(1, 2), told ? -1 : -3);
            due("fewest() behind change " + change, x.fewest(), told ? 0 : -3);
            due("place(2) behind change " + change, x.place(2), told ? 3 : -3);
            due("place(3) behind change " + change, x.place(3), told ? -1 : -3);
            due("route(1, 1) behind change " + change, x.route(1, 1), told ? 2 : -3);
            due("route(9, 0) behind change " + change, x.route(9, 0), told ? -1 : -3);
            due("wide() behind change " + change, x.wide(), told ? 5 : -3);
        }
    }

    private static void round() {
        promise = 14;
        LayerDrawing x = graph(4, 1, 0, 3, 1, 2);
        due("round() without run()", x.round(), -3);
        x.run(0);
        due("round() at first", x.round(), 0);
        x.run(7);
        due("round() of the first such", x.round(), 1);
        LayerDrawing y = graph(4, 1, 0, 2, 1, 3);
        y.run(5);
        due("round() where none is better", y.round(), 0);
        LayerDrawing none = new LayerDrawing();
        none.run(5);
        due("round() of none", none.round(), 0);
        // Each of three rounds is better than what was before; no order by rounds is the best one.
        LayerDrawing late = graph(6, 1, 2, 3, 3, 4, 2, 5, 1, 3, 0, 5, 1, 3, 1, 3, 0, 4, 2, 4);
        int[] crossings = {9, 5, 2, 1, 1, 1};
        for (int r = 0; r < crossings.length; r++) {
            due("run(" + r + ")", late.run(r), crossings[r]);
            due("round()", late.round(), Math.min(r, 3));
        }
        due("run(20)", late.run(20), 1);
        due("round()", late.round(), 3);
        due("fewest()", late.fewest(), 0);
    }

    private static void count() {
        promise = 15;
        LayerDrawing x = graph(5, 1, 0, 1, 1, 2, 0, 2, 0, 2);
        due("count(0) without run()", x.count(0), -3);
        due("count(-1) without run()", x.count(-1), -3);
        x.run(0);
        due("count(0)", x.count(0), 3);
        due("count(1)", x.count(1), 3);
        due("count(2)", x.count(2), 1);
        due("count(3)", x.count(3), -1);
        for (int l : WRONG) {
            due("count(" + l + ")", x.count(l), -1);
        }
    }

    private static void item() {
        promise = 16;
        LayerDrawing x = graph(5, 1, 0, 4, 2, 3);
        due("item(0, 0) without run()", x.item(0, 0), -3);
        due("item(0, -1) without run()", x.item(0, -1), -3);
        x.run(0);
        orderDue(x, 0, 0, 1, 2);
        orderDue(x, 1, 3, 4);
        // Node 1 has no pieces: its own place, 1, is also the middle of node 2, so it stays before.
        x.run(1);
        orderDue(x, 0, 0, 1, 2);
        orderDue(x, 1, 4, 3);
        for (int i : WRONG) {
            due("item(0, " + i + ")", x.item(0, i), -1);
            due("item(" + i + ", 0)", x.item(i, 0), -1);
        }
        // Bends: those of arc 1 behind those of arc 0, each from above on.
        LayerDrawing y = graph(4, 1, 0, 3, 0, 3, 0, 1, 1, 2, 2, 3);
        y.run(0);
        orderDue(y, 0, 0);
        orderDue(y, 1, 1, 12, 14);
        orderDue(y, 2, 2, 13, 15);
        orderDue(y, 3, 3);
        // A round goes down first: layer 1 is put in order, layer 0 then stays as it is.
        LayerDrawing z = graph(6, 1, 0, 5, 0, 4, 1, 3, 2, 3, 1, 4, 2, 5);
        z.run(4);
        orderDue(z, 0, 0, 1, 2);
        orderDue(z, 1, 4, 5, 3);
        LayerDrawing none = new LayerDrawing();
        none.run(1);
        due("item(0, 0) of none", none.item(0, 0), -1);
    }

    private static void fewest() {
        promise = 17;
        LayerDrawing x = graph(4, 1, 0, 3, 1, 2);
        due("fewest() without run()", x.fewest(), -3);
        due("run(0)", x.run(0), 1);
        due("fewest()", x.fewest(), 0);
        x.arc(0, 2);
        x.arc(1, 3);
        x.run(0);
        due("fewest() of two by two", x.fewest(), 1);
        LayerDrawing seven = graph(7, 1);
        due("fewest() of 5040 without run()", seven.fewest(), -3);
        seven.run(0);
        due("fewest() of 5040", seven.fewest(), -4);
        LayerDrawing six = graph(6, 1);
        six.run(0);
        due("fewest() of 720", six.fewest(), 0);
        // None cross below 0, 1, 2 in the order 8, 3, 5, 7, 4, 6; then 0 and 1 both lead to 5 and 7.
        LayerDrawing nine = graph(9, 1, 0, 8, 0, 3, 0, 5, 1, 5, 1, 7, 2, 7, 2, 4, 2, 6);
        nine.run(0);
        due("fewest() of 4320", nine.fewest(), 0);
        nine.arc(0, 7);
        nine.run(0);
        due("fewest() of 4320", nine.fewest(), 1);
        LayerDrawing eleven = graph(11, 1, 0, 3, 0, 4, 0, 5, 0, 6, 1, 7, 2, 8, 3, 9, 4, 10);
        eleven.run(0);
        due("fewest() of 8640", eleven.fewest(), -4);
        LayerDrawing twelve = graph(12, 1);
        twelve.run(0);
        due("fewest() of very many", twelve.fewest(), -4);
        LayerDrawing none = new LayerDrawing();
        none.run(0);
        due("fewest() of none", none.fewest(), 0);
    }

    private static void place() {
        promise = 18;
        LayerDrawing x = new LayerDrawing();
        x.node(5);
        x.node(3);
        x.node(2);
        x.arc(0, 1);
        x.arc(1, 2);
        x.arc(0, 2);
        due("place(0) without run()", x.place(0), -3);
        due("place(-1) without run()", x.place(-1), -3);
        x.run(2);
        due("place(0)", x.place(0), 0);
        due("place(1)", x.place(1), 1);
        due("place(12)", x.place(12), 5);
        due("place(2)", x.place(2), 3);
        due("place(3)", x.place(3), -1);
        due("place(11)", x.place(11), -1);
        due("place(13)", x.place(13), -1);
        due("place(-1)", x.place(-1), -1);
        due("place(72)", x.place(72), -1);
        due("place(MIN)", x.place(Integer.MIN_VALUE), -1);
        due("place(MAX)", x.place(Integer.MAX_VALUE), -1);
        LayerDrawing y = graph(2, 1, 0, 1);
        y.width(1, 9);
        y.run(0);
        due("place(1) not below 0", y.place(1), 0);
        // Node 1 has nothing above it and stands first in layer 1; the arc to node 2 is there twice.
        LayerDrawing z = graph(4, 4, 0, 2, 0, 2, 2, 3, 1, 3);
        z.run(0);
        due("layer(1)", z.layer(1), 1);
        due("place(1) without any above", z.place(1), 0);
        due("place(2)", z.place(2), 5);
        due("place(3)", z.place(3), 2);
        LayerDrawing row = graph(3, 7);
        row.run(0);
        due("place(1) in layer 0", row.place(1), 8);
        due("place(2) in layer 0", row.place(2), 16);
        // One piece each: twice the arc from node 1 weighs more. (1 + 2 * 5) by 6 is 1.
        LayerDrawing pull = graph(3, 1, 0, 2, 1, 2, 1, 2);
        pull.run(0);
        due("place(2) with an arc twice", pull.place(2), 1);
        pull.width(1, 4);
        pull.run(0);
        due("place(2) with an arc twice", pull.place(2), 2);
    }

    private static void route() {
        promise = 19;
        LayerDrawing x = graph(4, 1, 0, 1, 1, 2, 2, 3, 0, 2, 0, 3);
        due("route(0, 0) without run()", x.route(0, 0), -3);
        due("route(-1, 0) without run()", x.route(-1, 0), -3);
        x.run(1);
        int[] want = {0, 13, 14, 3};
        for (int k = 0; k < 4; k++) {
            due("route(4, " + k + ")", x.route(4, k), want[k]);
        }
        due("route(4, 4)", x.route(4, 4), -1);
        due("route(3, 1)", x.route(3, 1), 12);
        due("route(0, 0)", x.route(0, 0), 0);
        due("route(0, 1)", x.route(0, 1), 1);
        due("route(0, 2)", x.route(0, 2), -1);
        due("route(5, 0)", x.route(5, 0), -1);
        for (int i : WRONG) {
            due("route(0, " + i + ")", x.route(0, i), -1);
            due("route(" + i + ", 0)", x.route(i, 0), -1);
        }
        x.drop(3);
        x.run(0);
        due("route(3, 0) of a dropped arc", x.route(3, 0), -1);
        due("route(4, 1)", x.route(4, 1), 12);
        // A turned arc is told from its upper node, where it leads to.
        LayerDrawing back = graph(3, 1, 0, 1, 1, 2, 2, 0);
        back.run(0);
        due("route(0, 0) turned", back.route(0, 0), 1);
        due("route(0, 1) turned", back.route(0, 1), 12);
        due("route(0, 2) turned", back.route(0, 2), 0);
    }

    private static void wide() {
        promise = 20;
        LayerDrawing none = new LayerDrawing();
        due("wide() without run()", none.wide(), -3);
        none.run(0);
        due("wide() of none", none.wide(), 0);
        LayerDrawing row = graph(3, 7);
        row.run(0);
        due("wide() of a row", row.wide(), 23);
        row.width(2, 1);
        due("wide() behind a change", row.wide(), -3);
        row.run(0);
        due("wide() of a row", row.wide(), 17);
        // A bend is the rightmost.
        LayerDrawing x = graph(3, 1, 0, 1, 1, 2, 0, 2);
        x.run(0);
        due("wide() at a bend", x.wide(), 3);
    }

    private static void tidy() {
        promise = 21;
        LayerDrawing x = graph(1, 9);
        due("tidy(0) alone", x.tidy(0), 0);
        due("tidy(1)", x.tidy(1), -1);
        x.node(1);
        due("tidy(0) of two roots", x.tidy(0), -3);
        due("tidy(2) of two roots", x.tidy(2), -1);
        for (int v : WRONG) {
            due("tidy(" + v + ")", x.tidy(v), -1);
        }
        x.arc(0, 1);
        due("tidy(0)", x.tidy(0), 0);
        due("tidy(1)", x.tidy(1), 4);
        x.arc(0, 1);
        due("tidy(0) with two arcs to a node", x.tidy(0), -3);
        due("tidy(0) of a round", graph(2, 1, 0, 1, 1, 0).tidy(0), -3);
        due("tidy(0) beside a round", graph(3, 1, 1, 2, 2, 1).tidy(0), -3);
        due("tidy(0) of two parents", graph(3, 1, 0, 2, 1, 2).tidy(0), -3);
        // Children by their arcs' numbers, not by their own.
        LayerDrawing y = graph(4, 3, 0, 3, 0, 1, 0, 2);
        due("tidy(3) first", y.tidy(3), 0);
        due("tidy(1)", y.tidy(1), 4);
        due("tidy(2)", y.tidy(2), 8);
        due("tidy(0)", y.tidy(0), 4);
        y.width(1, 2);
        due("tidy(2) behind a narrower one", y.tidy(2), 7);
        // (2 * 0 + 3 + 2 * 7 + 3) by 4 is 5, less 1.
        due("tidy(0)", y.tidy(0), 4);
        tidyUnderNeighbours();
        tidyAtZero();
    }

    /** A part may reach under one before it that is not so deep, but not left of 0. */
    private static void tidyUnderNeighbours() {
        LayerDrawing x = graph(6, 1, 0, 1, 0, 2, 0, 3, 3, 4, 4, 5);
        x.width(4, 9);
        due("tidy(1)", x.tidy(1), 0);
        due("tidy(2)", x.tidy(2), 2);
        due("tidy(3)", x.tidy(3), 4);
        due("tidy(4)", x.tidy(4), 0);
        due("tidy(5)", x.tidy(5), 4);
        due("tidy(0)", x.tidy(0), 2);
        // The depth that decides is the one where both parts come nearest, here that of 4 and 5.
        LayerDrawing y = graph(6, 1, 0, 1, 0, 2, 1, 4, 2, 5, 5, 3);
        y.width(4, 9);
        y.width(5, 9);
        due("tidy(4)", y.tidy(4), 0);
        due("tidy(5)", y.tidy(5), 10);
        due("tidy(1)", y.tidy(1), 4);
        due("tidy(2)", y.tidy(2), 14);
        due("tidy(3)", y.tidy(3), 14);
        due("tidy(0)", y.tidy(0), 9);
    }

    /** A wide node over a narrow one reaches left of it: then it is moved to 0, and all with it. */
    private static void tidyAtZero() {
        LayerDrawing x = graph(5, 1, 0, 1, 1, 2, 0, 3, 3, 4);
        x.width(1, 9);
        x.width(3, 9);
        x.width(0, 9);
        due("tidy(1)", x.tidy(1), 0);
        due("tidy(2)", x.tidy(2), 4);
        due("tidy(3)", x.tidy(3), 10);
        due("tidy(4)", x.tidy(4), 14);
        due("tidy(0)", x.tidy(0), 5);
        LayerDrawing chain = graph(3, 2, 0, 1, 1, 2);
        chain.width(0, 9);
        // 0 over the middle at 1: (2 + 2) by 4 is 1, less 4; all are moved by 3.
        due("tidy(0)", chain.tidy(0), 0);
        due("tidy(1)", chain.tidy(1), 3);
        due("tidy(2)", chain.tidy(2), 3);
    }
}
