import java.util.ArrayList;
import java.util.List;

/**
 * The boundary cases, sentence by sentence of the document: the last input that is still allowed,
 * the first that is not, new and cleared objects, and that a refused call changes nothing.
 *
 * <p>Calls are written as text: "node 9 = 0" is node(9), 0 is due; "3 * arc 0 1" is a call three
 * times whose answers are not looked at.
 */
public final class EdgesTest {
    private static final int MOST_CALLS = 512;

    /** Arguments next to every bound of the document, on both of its sides. */
    private static final int[] EDGES = {
        Integer.MIN_VALUE, -1, 0, 1, 2, 9, 10, 11, 12, 13, 20, 21, 23, 24, 71, 72, Integer.MAX_VALUE};

    private static final String CHAIN_OF_12 =
        "12 * node 1, arc 0 1, arc 1 2, arc 2 3, arc 3 4, arc 4 5, arc 5 6, arc 6 7, arc 7 8, arc 8 9, arc 9 10, arc 10 11";

    private static final String TRIANGLE = "node 3, node 2, node 9, arc 0 1, arc 1 2, arc 0 2";

    /** States that differ in what is full, known or refused. */
    private static final String[] STATES = {
        "",
        "run 0",
        "node 9",
        "3 * node 2, run 1, clear",
        TRIANGLE,
        TRIANGLE + ", run 3",
        TRIANGLE + ", run 3, fewest, width 0 4",
        TRIANGLE + ", drop 1, run 0, arc 2 1",
        "2 * node 1, arc 0 1, drop 0, arc 1 0, run 20",
        "3 * node 5, arc 0 1, arc 1 2, arc 2 0, arc 0 2, run 5",
        "7 * node 3, run 2",
        "4 * node 4, arc 0 3, arc 1 2, run 1, fewest",
        "6 * node 2, arc 0 1, arc 0 2, arc 2 3, arc 2 4, arc 4 5, tidy 0, run 2",
        "12 * node 9, arc 0 11, arc 11 1, run 4",
        "3 * node 1, 12 * arc 0 1, 12 * arc 1 2, drop 0, run 1",
        "2 * node 1, 24 * arc 1 0, drop 0, drop 23",
        CHAIN_OF_12 + ", 6 * arc 0 11, run 20",
        CHAIN_OF_12 + ", 6 * arc 0 11, run 1, arc 0 2",
    };

    private static int wrong = 0;
    private static String sentence = "";

    public static void main(String[] args) {
        nodes();
        widths();
        arcs();
        turned();
        layers();
        bends();
        orders();
        crossings();
        places();
        trees();
        treesAtZero();
        firstThatFits();
        noNodes();
        layerCalls();
        run();
        runIsNoMore();
        round();
        countAndItem();
        fewest();
        placeAndRoute();
        wide();
        tidy();
        refusals();
        refusalsAndQuestionsChangeNothing();
        clearedIsAsNew();
        lastCall();
        System.out.println(wrong == 0 ? "all answers are as due" : wrong + " answers are not as due");
        if (wrong != 0) {
            System.exit(1);
        }
    }

    private static void fail(String what) {
        wrong++;
        if (wrong < 40) {
            System.out.println("\"" + sentence + "\": " + what);
        }
    }

    /** An object with the count of its calls, as nothing is promised behind the 512th. */
    private static final class Used {
        final LayerDrawing x = new LayerDrawing();
        int calls = 0;

        int call(String text) {
            String[] words = text.trim().split(" ");
            int a = words.length > 1 ? number(words[1]) : 0;
            int b = words.length > 2 ? number(words[2]) : 0;
            return call(words[0], a, b);
        }

        int call(String name, int a, int b) {
            calls++;
            if (calls > MOST_CALLS) {
                throw new IllegalStateException("nothing is promised after 512 calls");
            }
            switch (name) {
                case "node": return x.node(a);
                case "width": return x.width(a, b);
                case "arc": return x.arc(a, b);
                case "drop": return x.drop(a);
                case "clear": return x.clear();
                case "turns": return x.turns();
                case "turned": return x.turned(a);
                case "layer": return x.layer(a);
                case "layers": return x.layers();
                case "length": return x.length();
                case "bends": return x.bends();
                case "run": return x.run(a);
                case "round": return x.round();
                case "count": return x.count(a);
                case "item": return x.item(a, b);
                case "fewest": return x.fewest();
                case "place": return x.place(a);
                case "route": return x.route(a, b);
                case "wide": return x.wide();
                case "tidy": return x.tidy(a);
                default: throw new IllegalStateException("no call " + name);
            }
        }

        void play(String script) {
            for (String row : script.split(",")) {
                if (!row.isBlank()) {
                    playRow(row.trim());
                }
            }
        }

        private void playRow(String row) {
            String[] sides = row.split(" = ");
            String[] times = sides[0].split(" \\* ");
            if (times.length == 2) {
                for (int i = 0; i < number(times[0]); i++) {
                    call(times[1]);
                }
                return;
            }
            int got = call(sides[0]);
            if (sides.length == 2 && got != number(sides[1])) {
                fail(sides[0] + " answered " + got + ", due is " + sides[1]);
            }
        }
    }

    private static int number(String word) {
        switch (word.trim()) {
            case "MIN": return Integer.MIN_VALUE;
            case "MAX": return Integer.MAX_VALUE;
            default: return Integer.parseInt(word.trim());
        }
    }

    /** Calls on a new object, and the same ones on a cleared one. */
    private static void edge(String words, String... scripts) {
        sentence = words;
        Used fresh = new Used();
        for (String script : scripts) {
            fresh.play(script);
        }
        Used cleared = new Used();
        cleared.play("9 * node 7, arc 0 1, arc 1 0, arc 1 2, arc 0 2, drop 2, run 3, fewest, tidy 0, clear = 9");
        for (String script : scripts) {
            cleared.play(script);
        }
    }

    // ---- Terms

    private static void nodes() {
        edge("A GRAPH has NODES 0, 1, ..",
            "layer 0 = -1, node 1 = 0, layer 0 = 0, layer 1 = -1, node 1 = 1, layer 1 = 0, layer 2 = -1, layer -1 = -1");
        edge("12 at most",
            "10 * node 1, node 1 = 10, node 1 = 11, node 1 = -4, node 9 = -4, layer 11 = 0, layer 12 = -1",
            "clear = 12, 11 * node 1, node 1 = 11, node 1 = -4, clear = 12");
    }

    private static void widths() {
        edge("each with a WIDTH (1 to 9), of a new NODE",
            "node 0 = -2, node 1 = 0, node 9 = 1, node 10 = -2, node -1 = -2, node MIN = -2, node MAX = -2, node 5 = 2",
            "width 0 2 = 1, width 1 2 = 9, width 2 2 = 5, width 3 2 = -1");
        edge("each with a WIDTH (1 to 9), of one that is there",
            "node 5, width 0 0 = -2, width 0 10 = -2, width 0 -1 = -2, width 0 MIN = -2, width 0 MAX = -2",
            "width 0 1 = 5, width 0 9 = 1, width 0 9 = 9, width 0 5 = 9");
        edge("-1 there is no such NODE: its WIDTH",
            "width 0 5 = -1, node 5, width 0 6 = 5, width 1 6 = -1, width -1 6 = -1, width MIN 6 = -1, width MAX 6 = -1",
            "11 * node 5, width 11 6 = 5, width 12 6 = -1");
    }

    private static void arcs() {
        edge("ARCS 0, 1, .. (24 at most)",
            "2 * node 1, 22 * arc 0 1, arc 0 1 = 22, arc 1 0 = 23, arc 0 1 = -4, turned 23 = 1, turned 24 = -1",
            "length = 24, clear = 2, 2 * node 1, arc 0 1 = 0, 22 * arc 0 1, arc 0 1 = 23, arc 0 1 = -4");
        edge("those that were dropped counted",
            "2 * node 1, 23 * arc 0 1, drop 0 = 22, drop 22 = 21, arc 0 1 = 23, arc 0 1 = -4, drop 23 = 21",
            "arc 0 1 = -4, drop 1 = 20, drop 2 = 19, arc 0 1 = -4, length = 19");
        edge("a number does not come again",
            "2 * node 1, arc 0 1 = 0, drop 0 = 0, arc 0 1 = 1, drop 0 = -1, turned 0 = -1, turned 1 = 0",
            "drop 1 = 0, drop 1 = -1, arc 1 0 = 2, run 0 = 0, route 0 0 = -1, route 1 0 = -1, route 2 0 = 1");
        edge("each from a NODE to another one",
            "arc 0 0 = -1, arc 0 1 = -1, node 1, arc 0 0 = -1, arc 0 1 = -1, arc 1 0 = -1, node 1, arc 1 1 = -1",
            "arc 0 2 = -1, arc 2 0 = -1, arc -1 0 = -1, arc 0 -1 = -1, arc MIN MAX = -1, arc MAX 0 = -1",
            "arc 0 1 = 0, arc 1 0 = 1, 10 * node 1, arc 11 11 = -1, arc 11 12 = -1, arc 12 11 = -1, arc 0 11 = 2, arc 11 0 = 3");
        edge("several may be alike",
            "2 * node 1, arc 0 1 = 0, arc 0 1 = 1, arc 0 1 = 2, length = 3, turns = 0, drop 1 = 2, length = 2, turned 2 = 0");
    }

    private static void turned() {
        edge("TURNED are the fewest ARCS: none",
            "turns = 0, node 1, turns = 0, 2 * node 1, turns = 0, arc 0 1, arc 1 2, arc 0 2, turns = 0, turned 2 = 0");
        edge("leave no way round by ARCS: the shortest way",
            "2 * node 1, arc 0 1, arc 1 0, turns = 1, turned 0 = 1, turned 1 = 0, layer 0 = 1, layer 1 = 0, length = 2");
        edge("leave no way round by ARCS: the longest way",
            CHAIN_OF_12, "turns = 0, arc 11 0 = 11, turns = 1, turned 0 = 1, turned 1 = 0, turned 11 = 0",
            "layer 1 = 0, layer 11 = 10, layer 0 = 11, layers = 12, length = 22, bends = 10");
        edge("the fewest ARCS, ahead of the FIRST SET",
            "2 * node 1, arc 0 1, arc 0 1, arc 1 0, turns = 1, turned 0 = 0, turned 1 = 0, turned 2 = 1",
            "drop 1 = 2, turns = 1, turned 0 = 1, turned 2 = 0, turned 1 = -1");
        edge("the FIRST is the one that has the least number by which it differs: at the first number",
            "2 * node 1, arc 1 0, arc 0 1, arc 0 1, arc 1 0, turns = 2, turned 0 = 1, turned 1 = 0, turned 2 = 0, turned 3 = 1");
        edge("the FIRST is the one that has the least number by which it differs: at the second number",
            "4 * node 1, arc 0 1, arc 2 3, arc 1 0, arc 3 2, turns = 2",
            "turned 0 = 1, turned 1 = 1, turned 2 = 0, turned 3 = 0");
        edge("the FIRST is the one that has the least number by which it differs: at the last number",
            "4 * node 1, 20 * arc 0 1, arc 2 3, arc 1 0, arc 3 2, arc 1 0, turns = 3",
            "turned 0 = 0, turned 20 = 1, turned 21 = 1, turned 22 = 0, turned 23 = 1, turned 24 = -1");
    }

    private static void layers() {
        edge("LAYERS are whole numbers from 0 on",
            "node 1, layer 0 = 0, layers = 1, node 1, layer 1 = 0, layers = 1, arc 1 0, layer 1 = 0, layer 0 = 1, layers = 2");
        edge("LAYERS: the last there can be", CHAIN_OF_12, "layer 0 = 0, layer 10 = 10, layer 11 = 11, layers = 12");
        edge("each connected part has a NODE in LAYER 0",
            "6 * node 1, arc 0 1, arc 1 2, arc 4 3, layer 0 = 0, layer 2 = 2, layer 4 = 0, layer 3 = 1, layer 5 = 0",
            "arc 5 2, layer 5 = 1, drop 3 = 3, layer 5 = 0");
        edge("of several those that give the least LAYER to NODE 0",
            "5 * node 1, arc 1 0, arc 0 2, arc 1 3, arc 3 4, arc 4 2, length = 6, layer 0 = 1, layer 2 = 3",
            "arc 0 2, length = 7, layer 0 = 2, arc 1 0, length = 9, layer 0 = 1, arc 1 0, length = 10, layer 0 = 1");
        edge("the LENGTH is the sum, over all ARCS, of how much",
            "length = 0, 3 * node 1, length = 0, arc 0 1, length = 1, arc 1 2, length = 2, arc 0 2, length = 4",
            "arc 0 2, length = 6, drop 1 = 3, length = 3");
    }

    private static void bends() {
        edge("an ARC that leads over k + 1 LAYERS has k: none",
            "2 * node 1, arc 0 1, bends = 0, run 0, route 0 0 = 0, route 0 1 = 1, route 0 2 = -1, place 12 = -1");
        edge("an ARC that leads over k + 1 LAYERS has k: one",
            "3 * node 1, arc 0 1, arc 1 2, arc 0 2, bends = 1, run 0, route 2 0 = 0, route 2 1 = 12, route 2 2 = 2, route 2 3 = -1");
        edge("an ARC that leads over k + 1 LAYERS has k: the most",
            CHAIN_OF_12, "arc 0 11, bends = 10, run 0, route 11 0 = 0, route 11 1 = 12, route 11 10 = 21, route 11 11 = 11",
            "route 11 12 = -1, route 11 -1 = -1, place 21 = 2, place 22 = -1, count 0 = 1, count 1 = 2, count 10 = 2, count 11 = 1");
        edge("12 and on for the BENDS, also with fewer NODES",
            "3 * node 1, arc 0 1, arc 1 2, arc 0 2, run 0, item 1 0 = 1, item 1 1 = 12, item 1 2 = -1",
            "place 2 = 1, place 3 = -1, place 11 = -1, place 12 = 2, place 13 = -1");
        edge("by ARCS, of one ARC from above on",
            "5 * node 1, arc 2 4, arc 0 3, arc 0 1, arc 1 2, arc 2 3, arc 3 4, bends = 3, run 0",
            "route 0 1 = 12, route 1 1 = 13, route 1 2 = 14, item 1 1 = 13, item 2 1 = 14, item 3 1 = 12",
            "drop 0 = 5, run 0, route 0 0 = -1, route 1 1 = 12, route 1 2 = 13, place 14 = -1");
        edge("one in each LAYER between: the most in one LAYER",
            "3 * node 1, arc 0 1, arc 1 2, 22 * arc 0 2, arc 0 2 = -4, bends = 22, length = 46, run 20 = 0, count 1 = 23",
            "item 1 0 = 1, item 1 22 = 33, item 1 23 = -1, place 33 = 44, place 34 = -1, place 2 = 22, wide = 45, route 23 1 = 33");
        edge("of a TURNED ARC from above on",
            "4 * node 1, arc 0 1, arc 1 2, arc 2 3, arc 3 0, turned 0 = 1, bends = 2, run 0",
            "route 0 0 = 1, route 0 1 = 12, route 0 2 = 13, route 0 3 = 0, route 0 4 = -1, item 1 1 = 12, item 2 1 = 13");
    }

    private static void orders() {
        edge("at first the ITEMS of each LAYER stand by their numbers",
            "4 * node 1, arc 3 1, arc 3 0, arc 0 2, arc 3 2, run 0 = 0",
            "item 0 0 = 3, item 1 0 = 0, item 1 1 = 1, item 1 2 = 12, item 2 0 = 2");
        edge("a ROUND of one LAYER",
            "12 * node 1, run 20 = 0, round = 0, item 0 0 = 0, item 0 11 = 11, count 0 = 12, count 1 = -1");
        // Node 2 has 2 by 4, node 3 has 1 by 2; that 4 and 5 uncross makes the ROUND what is MEANT.
        edge("those of the same stay as they stood",
            "8 * node 1, 2 * arc 0 2, 2 * arc 1 2, arc 0 3, arc 1 3, arc 4 7, arc 5 6, run 0 = 3, run 1 = 2, round = 1",
            "item 1 0 = 2, item 1 1 = 3, item 1 2 = 7, item 1 3 = 6, item 0 0 = 0, item 0 1 = 1, item 0 2 = 4, item 0 3 = 5");
        // The same with 1 by 3 for node 2 and 1 by 2 for node 3, and then the other way round.
        edge("by how many these are: fractions",
            "8 * node 1, 2 * arc 0 2, arc 1 2, arc 0 3, arc 1 3, arc 4 7, arc 5 6, run 1 = 1",
            "item 1 0 = 2, item 1 1 = 3, drop 0, arc 0 3, run 0 = 3, run 1 = 1, item 1 0 = 3, item 1 1 = 2");
        itemsWithoutAny();
    }

    private static void itemsWithoutAny() {
        edge("of an ITEM without any its own place: the first, the last",
            "5 * node 1, arc 1 4, arc 2 3, run 0 = 1, run 1 = 0, item 0 0 = 0, item 0 1 = 1, item 0 2 = 2, item 1 0 = 4, item 1 1 = 3",
            "clear, 5 * node 1, arc 0 3, arc 1 2, run 1 = 0, item 0 0 = 0, item 0 1 = 1, item 0 2 = 4, item 1 0 = 3, item 1 1 = 2");
        // Nodes 1 and 2 stay at 1 and 2, node 3 has 1: as node 1, which stood before it.
        edge("of an ITEM without any its own place: between",
            "6 * node 1, arc 0 5, arc 3 4, run 1 = 0, item 0 0 = 0, item 0 1 = 1, item 0 2 = 3, item 0 3 = 2");
        // Going up nodes 3 and 4 have no PIECES below, and stand at 0 and 1 by then; node 2 has 0.
        edge("of an ITEM without any its own place: as it is then",
            "6 * node 1, arc 1 2, arc 2 5, arc 0 4, arc 0 3, run 0 = 2, run 1 = 1, item 1 0 = 3, item 1 1 = 2, item 1 2 = 4, fewest = 0");
    }

    private static void crossings() {
        edge("two PIECES CROSS: not with the upper ITEM in common", "3 * node 1, arc 0 2, arc 0 1, run 0 = 0");
        edge("two PIECES CROSS: not with the lower ITEM in common", "3 * node 1, arc 1 2, arc 0 2, run 0 = 0");
        edge("two PIECES CROSS: not those alike", "2 * node 1, 5 * arc 0 1, run 0 = 0, fewest = 0");
        edge("two PIECES CROSS: each with each", "4 * node 1, 2 * arc 0 3, 3 * arc 1 2, run 0 = 6, run 1 = 0");
        edge("two PIECES CROSS: in one order alone", "4 * node 1, arc 0 2, arc 1 3, run 0 = 0, drop 0, arc 1 2, run 0 = 0");
        edge("two PIECES CROSS: between the same LAYERS",
            "6 * node 1, arc 0 4, arc 1 3, arc 3 5, arc 4 2, layers = 3, run 0 = 2, run 1 = 0, round = 1");
        edge("the fewest CROSSINGS, the first such",
            "4 * node 1, arc 0 2, arc 0 3, arc 1 2, arc 1 3, run 0 = 1, round = 0, run 20 = 1, round = 0, item 1 0 = 2");
        edge("the fewest CROSSINGS, the first such: a ROUND that gives as many moves nothing",
            "5 * node 1, arc 2 4, arc 0 4, arc 0 3, arc 2 3, run 1 = 1, round = 0, item 0 0 = 0, item 0 1 = 1, item 0 2 = 2, place 2 = 4");
        edge("the fewest CROSSINGS, the first such: a ROUND that gives more moves nothing",
            "6 * node 1, arc 1 3, arc 0 5, arc 3 4, arc 1 4, arc 0 2, run 0 = 1, run 1 = 1, round = 0",
            "item 1 0 = 2, item 1 1 = 3, item 1 2 = 5, item 1 3 = 12, fewest = 0");
    }

    private static void places() {
        edge("in LAYER 0 the first ITEM is at 0, each next one 1 behind the right end",
            "node 9, node 1, node 4, run 0, place 0 = 0, place 1 = 10, place 2 = 12, wide = 16");
        edge("BENDS have WIDTH 1",
            "node 9, 2 * node 1, arc 0 1, arc 1 2, arc 0 2, run 0, place 1 = 4, place 12 = 6, place 2 = 5, wide = 9");
        edge("by twice their number, rounded down",
            "node 1, node 2, node 1, arc 0 2, arc 1 2, run 0, place 2 = 1, width 1 3, run 0, place 2 = 2");
        edge("less its WIDTH by 2, rounded down",
            "node 9, node 1, arc 0 1, run 0, place 1 = 4, width 1 2, run 0, place 1 = 3, width 1 3, run 0, place 1 = 3",
            "width 1 4, run 0, place 1 = 2, width 1 8, run 0, place 1 = 0, width 1 9, run 0, place 1 = 0");
        edge("it is there, but not below 0",
            "node 3, node 1, arc 0 1, run 0, place 1 = 1, width 1 3, run 0, place 1 = 0, width 1 4, run 0, place 1 = 0",
            "width 1 9, run 0, place 1 = 0, wide = 9");
        edge("without any: 0",
            "node 1, node 2, node 9, node 5, arc 3 0, arc 0 1, arc 2 1, layer 2 = 1, run 0, place 0 = 2, place 2 = 4",
            "width 2 1, run 0, place 2 = 4, drop 2, arc 2 1, run 0, place 2 = 4");
        edge("without any: 0, as the first ITEM",
            "4 * node 4, arc 0 2, arc 0 2, arc 2 3, arc 1 3, layer 1 = 1, run 0, place 1 = 0, place 2 = 5");
        edge("or 1 behind the right end of the one before it, what is more",
            "node 1, node 1, node 3, node 1, arc 0 2, arc 1 3, run 0, place 2 = 0, place 3 = 4",
            "width 1 4, run 0, place 3 = 4, width 1 5, run 0, place 3 = 4, width 1 6, run 0, place 3 = 5");
        edge("one for each PIECE",
            "3 * node 1, arc 0 2, 3 * arc 1 2, run 0, place 2 = 2, drop 3, drop 2, run 0, place 2 = 1");
    }

    private static void trees() {
        edge("TURNED are none", "2 * node 1, arc 0 1, tidy 0 = 0, arc 1 0, tidy 0 = -3, tidy 1 = -3, drop 0, tidy 0 = 0");
        edge("TURNED are none: beside the root", "3 * node 1, arc 1 2, arc 2 1, tidy 0 = -3, drop 1, arc 0 1, tidy 0 = 0");
        edge("each NODE has at most one ARC to it",
            "3 * node 1, arc 0 1, arc 0 2, tidy 0 = 1, arc 0 2, tidy 0 = -3, drop 1, tidy 0 = 1, arc 1 2, tidy 0 = -3");
        edge("some NODE (the root) alone has none",
            "node 1, tidy 0 = 0, node 1, tidy 0 = -3, tidy 1 = -3, arc 1 0, tidy 0 = 0, tidy 1 = 0, node 1, tidy 2 = -3");
        edge("the longest tree", CHAIN_OF_12, "tidy 0 = 0, tidy 11 = 0, tidy 12 = -1, drop 5, tidy 0 = -3, arc 11 0, tidy 6 = 0");
        edge("the broadest tree",
            "12 * node 9, arc 0 1, arc 0 2, arc 0 3, arc 0 4, arc 0 5, arc 0 6, arc 0 7, arc 0 8, arc 0 9, arc 0 10, arc 0 11",
            "tidy 1 = 0, tidy 2 = 10, tidy 11 = 100, tidy 0 = 50");
        edge("children of a NODE stand by the numbers of the ARCS to them",
            "4 * node 1, arc 0 3, arc 0 2, arc 0 1, tidy 3 = 0, tidy 2 = 2, tidy 1 = 4, tidy 0 = 2",
            "drop 0, arc 0 3, tidy 2 = 0, tidy 1 = 2, tidy 3 = 4, drop 1, arc 3 2, tidy 1 = 0, tidy 3 = 2, tidy 2 = 2, tidy 0 = 1");
        edge("by 4, rounded down",
            "3 * node 1, arc 0 1, arc 0 2, tidy 0 = 1, width 2 2, tidy 0 = 1, width 2 3, tidy 0 = 2, width 1 2, tidy 0 = 2",
            "width 2 4, tidy 0 = 3, tidy 2 = 3");
        edge("less its WIDTH by 2, rounded down",
            "2 * node 1, arc 0 1, width 1 3, tidy 0 = 1, width 0 2, tidy 0 = 0, tidy 1 = 0, width 0 3, tidy 0 = 0, tidy 1 = 0",
            "width 0 4, tidy 0 = 0, tidy 1 = 1");
    }

    private static void treesAtZero() {
        edge("each NODE without children: its left end is 0", "node 9, tidy 0 = 0, width 0 1, tidy 0 = 0, tidy 1 = -1");
        edge("the first at 0",
            "4 * node 1, width 1 9, arc 0 1, arc 1 2, arc 0 3, tidy 1 = 0, tidy 2 = 4, tidy 3 = 10, tidy 0 = 7");
        // Node 4 reaches left of its child, but the first part, node 3, is at 0 all the same.
        edge("the first at 0: whatever the next ones reach",
            "node 9, node 5, node 3, node 9, node 9, node 6, arc 0 1, arc 0 2, arc 2 3, arc 2 4, arc 4 5",
            "tidy 0 = 2, tidy 1 = 0, tidy 2 = 8, tidy 3 = 0, tidy 4 = 10, tidy 5 = 11");
        // Nodes 2 and 4 are in one depth with nothing between; 3 and 5 are nearer.
        edge("in each depth that both have, 1 behind, at least",
            "6 * node 1, arc 0 1, arc 1 2, arc 0 3, arc 3 4, width 2 3, tidy 5 = -3, arc 4 5",
            "tidy 1 = 1, tidy 2 = 0, tidy 3 = 4, tidy 4 = 4, tidy 5 = 4, tidy 0 = 3, width 4 3, tidy 4 = 4, tidy 3 = 5, tidy 5 = 5");
        edge("a depth that only the one has does not count",
            "5 * node 1, arc 0 1, arc 0 2, arc 2 3, width 3 5, tidy 4 = -3, arc 3 4",
            "tidy 1 = 0, tidy 2 = 2, tidy 3 = 0, tidy 4 = 2, width 3 6, tidy 2 = 3, tidy 3 = 0");
        edge("those before: not the last one alone",
            "6 * node 1, arc 0 1, arc 1 4, arc 0 2, arc 0 3, arc 3 5, width 4 9",
            "tidy 4 = 0, tidy 1 = 4, tidy 2 = 6, tidy 5 = 10, tidy 3 = 10, tidy 0 = 7");
        edge("and not left of 0",
            "5 * node 1, width 3 9, arc 0 1, arc 0 2, arc 2 3, arc 3 4, tidy 0 = 2, tidy 1 = 0, tidy 2 = 4, tidy 3 = 0, tidy 4 = 4",
            "width 3 5, tidy 1 = 0, tidy 2 = 2, tidy 3 = 0, width 3 3, tidy 2 = 2, tidy 3 = 1");
        edge("at the end all are moved so that the least is 0",
            "2 * node 1, arc 0 1, tidy 0 = 0, tidy 1 = 0, width 0 2, tidy 0 = 0, tidy 1 = 1, width 0 9, tidy 0 = 0, tidy 1 = 4");
    }

    private static void firstThatFits() {
        edge("the first that fits: node -2, -4", "12 * node 1, node 0 = -2, node 10 = -2, node 1 = -4");
        edge("the first that fits: width -1, -2", "node 1, width 1 0 = -1, width -1 10 = -1, width 0 0 = -2");
        edge("the first that fits: arc -1, -4", "2 * node 1, 24 * arc 0 1, arc 0 0 = -1, arc 0 2 = -1, arc -1 0 = -1, arc 1 0 = -4");
        edge("the first that fits: run -2, -4", CHAIN_OF_12, "13 * arc 0 11, run 21 = -2, run -1 = -2, run 20 = -4, run 0 = -4");
        edge("the first that fits: count and item -3, -1",
            "node 1, count 1 = -3, count -1 = -3, item 1 0 = -3, item 0 1 = -3, item 0 -1 = -3, run 0",
            "count 1 = -1, count -1 = -1, item 1 0 = -1, item 0 1 = -1, item 0 -1 = -1");
        edge("the first that fits: fewest -3, -4", "7 * node 1, fewest = -3, run 0, fewest = -4, node 1, fewest = -3");
        edge("the first that fits: place and route -3, -1",
            "node 1, place 1 = -3, place -1 = -3, route 0 0 = -3, route -1 0 = -3, run 0, place 1 = -1, place -1 = -1, route 0 0 = -1");
        edge("the first that fits: tidy -1, -3", "2 * node 1, tidy 2 = -1, tidy -1 = -1, tidy 0 = -3, tidy 1 = -3");
    }

    // ---- Promises 1 and 6

    private static void noNodes() {
        String none = "turns = 0, turned 0 = -1, layer 0 = -1, layers = 0, length = 0, bends = 0, round = -3, count 0 = -3,"
            + "item 0 0 = -3, fewest = -3, place 0 = -3, place 12 = -3, route 0 0 = -3, wide = -3, tidy 0 = -1,"
            + "width 0 1 = -1, arc 0 1 = -1, arc 0 0 = -1, drop 0 = -1, node 0 = -2, run -1 = -2, run 21 = -2";
        String ranOnNone = "run 20 = 0, round = 0, count 0 = -1, count -1 = -1, item 0 0 = -1, fewest = 0, place 0 = -1, place 12 = -1,"
            + "route 0 0 = -1, wide = 0, layers = 0, turns = 0, tidy 0 = -1, run 0 = 0, round = 0";
        edge("No NODES: a new object, cleared and used again", none, "clear = 0", none, ranOnNone, "clear = 0", none, ranOnNone);
        edge("No NODES any more: how many there were",
            "clear = 0, node 1, clear = 1, clear = 0, 12 * node 1, node 1 = -4, clear = 12, clear = 0", none);
        edge("No NODES any more: and no ARCS",
            "2 * node 1, arc 0 1, arc 1 0, drop 0, run 1, clear = 2, 2 * node 1, turned 1 = -1, drop 1 = -1, length = 0, arc 1 0 = 0",
            "turned 0 = 0, drop 0 = 0");
    }

    // ---- Promises 5 and 7 to 12

    private static void layerCalls() {
        edge("drop: how many there are. -1.",
            "3 * node 1, drop 0 = -1, arc 0 1, arc 1 2, drop 2 = -1, drop -1 = -1, drop MIN = -1, drop MAX = -1",
            "drop 1 = 1, drop 1 = -1, drop 0 = 0, drop 0 = -1, 22 * arc 0 2, drop 24 = -1, drop 23 = 21, drop 23 = -1");
        edge("turned: 1 or 0. -1.",
            "2 * node 1, turned 0 = -1, arc 0 1, turned 0 = 0, turned 1 = -1, arc 1 0, turned 0 = 1, turned 1 = 0, turned 2 = -1",
            "turned -1 = -1, turned MIN = -1, turned MAX = -1, turned 24 = -1, drop 0, turned 0 = -1, turned 1 = 0");
        edge("layer: -1.",
            "layer 0 = -1, node 1, layer 0 = 0, layer 1 = -1, layer -1 = -1, layer MIN = -1, layer MAX = -1",
            "11 * node 1, layer 11 = 0, layer 12 = -1");
        edge("How many LAYERS there are (0 without NODES)", "layers = 0, node 1, layers = 1, clear, layers = 0");
        edge("turns, length and bends without ARCS",
            "node 1, turns = 0, length = 0, bends = 0, node 1, arc 0 1, length = 1, drop 0, length = 0, bends = 0, turns = 0");
        edge("How many BENDS there are: more than run() takes",
            CHAIN_OF_12, "13 * arc 0 11, bends = 130, length = 154, arc 0 11 = -4, run 0 = -4, bends = 130");
    }

    // ---- Promises 13 to 20

    private static void run() {
        edge("-2 rounds are not 0 .. 20",
            "4 * node 1, arc 0 3, arc 1 2, run -1 = -2, run 21 = -2, run MIN = -2, run MAX = -2, round = -3",
            "run 0 = 1, round = 0, run 20 = 0, round = 1, run 21 = -2, round = 1, run -1 = -2, round = 1, run 1 = 0");
        edge("so many ROUNDS: each one counts",
            "6 * node 1, arc 2 3, arc 3 4, arc 2 5, arc 1 3, arc 0 5, arc 1 3, arc 1 3, arc 0 4, arc 2 4",
            "run 0 = 9, run 1 = 5, run 2 = 2, round = 2, run 3 = 1, round = 3, run 4 = 1, round = 3, run 20 = 1, round = 3, run 0 = 9");
        edge("-4 there are more than 60 BENDS",
            CHAIN_OF_12, "6 * arc 0 11, bends = 60, run 20 = 0, place 71 = 12, place 72 = -1, count 1 = 7, item 1 6 = 62, wide = 13",
            "arc 0 2 = 17, bends = 61, run 20 = -4, run 0 = -4, round = -3, place 71 = -3, drop 17 = 17, bends = 60, run 0 = 0, place 71 = 12");
    }

    private static void runIsNoMore() {
        String ran = "2 * node 2, arc 0 1, run 1 = 0";
        String told = "round = 0, count 0 = 1, item 0 0 = 0, fewest = 0, place 1 = 0, route 0 1 = 1, wide = 2";
        String no = "round = -3, count 0 = -3, item 0 0 = -3, fewest = -3, place 1 = -3, route 0 1 = -3, wide = -3";
        String[] changes = {"node 1 = 2", "width 0 9 = 2", "arc 0 1 = 1", "drop 0 = 0", "clear = 2"};
        for (String change : changes) {
            edge("what it tells is no more when the GRAPH is changed: " + change, ran, told, change, no, "run 0 = 0, round = 0");
        }
        String[] questions = {"turns = 0", "turned 0 = 0", "layer 0 = 0", "layers = 2", "length = 1", "bends = 0", "tidy 0 = 0"};
        for (String question : questions) {
            edge("what it tells stays when the GRAPH is not changed: " + question, ran, told, question, told);
        }
        String[] refused = {"node 0 = -2", "width 0 0 = -2", "width 2 1 = -1", "arc 0 0 = -1", "drop 1 = -1", "run 21 = -2", "turned 1 = -1"};
        for (String refusal : refused) {
            edge("what it tells stays when a call is refused: " + refusal, ran, told, refusal, told);
        }
    }

    private static void round() {
        edge("0 at first", "4 * node 1, arc 0 2, arc 1 3, run 20 = 0, round = 0, drop 0, arc 1 2, drop 1, arc 0 3, run 0 = 1, round = 0, run 1 = 0, round = 1");
        edge("-3 there was no run() since the GRAPH was changed",
            "round = -3, node 1, round = -3, run 5, round = 0, width 0 2, round = -3, run 21, round = -3, run 5, round = 0, clear, round = -3");
        edge("the GRAPH was changed: as README.md reads it, by every call that may change it and is not refused",
            "node 4, run 0, round = 0, width 0 4 = 4, round = -3, clear, run 0, round = 0, clear = 0, round = -3");
    }

    private static void countAndItem() {
        edge("count: -3, -1",
            "3 * node 1, arc 0 1, count 0 = -3, run 0, count 0 = 2, count 1 = 1, count 2 = -1, count -1 = -1, count MIN = -1, count MAX = -1");
        edge("count: the last LAYER there can be", CHAIN_OF_12, "run 0, count 11 = 1, count 12 = -1, item 11 0 = 11, item 12 0 = -1");
        edge("item: -3, -1",
            "3 * node 1, arc 0 1, item 0 0 = -3, run 0, item 0 0 = 0, item 0 1 = 2, item 0 2 = -1, item 0 -1 = -1, item 1 0 = 1, item 1 1 = -1",
            "item 2 0 = -1, item -1 0 = -1, item MIN 0 = -1, item MAX 0 = -1, item 0 MIN = -1, item 0 MAX = -1");
    }

    private static void fewest() {
        // Layers of 4, 2, 2, 2 and 4 ITEMS have 4608 orders: no more can be had up to 5000.
        edge("there are not more than 5000 such orders",
            "11 * node 1, arc 0 1, arc 1 2, arc 2 3, arc 3 4, arc 3 8, arc 3 9, arc 3 10, arc 0 4, run 0 = 3",
            "count 0 = 4, count 1 = 2, count 2 = 2, count 3 = 2, count 4 = 4, fewest = 0, node 1 = 11, run 0, fewest = -4");
        // 5040 are the fewest above 5000; then come 5184, of 4, 3, 3, 3 and 1 ITEMS.
        edge("-4 there are more than 5000 such orders: 5040", "6 * node 1, run 0, fewest = 0, node 1, run 0, fewest = -4");
        edge("-4 there are more than 5000 such orders: 5184",
            "7 * node 1, arc 0 1, arc 1 2, arc 2 3, arc 3 4, arc 0 4, arc 0 4, run 0, count 0 = 3, count 1 = 3, fewest = 0",
            "node 1 = 7, run 0, count 0 = 4, count 1 = 3, count 2 = 3, count 3 = 3, count 4 = 1, fewest = -4");
        edge("-4 there are more than 5000 such orders: very many", "12 * node 1, run 0, fewest = -4, clear, run 0, fewest = 0");
        edge("the fewest CROSSINGS of all orders: fewer than what is MEANT",
            "4 * node 1, arc 0 3, arc 1 2, run 0 = 1, fewest = 0, round = 0, item 1 0 = 2, arc 0 2, arc 1 3, run 3 = 1, fewest = 1");
        // A path through all six; then a way round them; then each joined with each.
        edge("the fewest CROSSINGS of all orders: both LAYERS move",
            "6 * node 1, arc 2 5, arc 0 5, arc 0 3, arc 1 3, arc 1 4, run 0 = 2, fewest = 0, arc 2 4, run 0, fewest = 2",
            "arc 0 4, arc 1 5, arc 2 3, run 0 = 9, fewest = 9");
        // Above node 3 wants to be between the other two, below node 2 does.
        edge("the fewest CROSSINGS of all orders: a LAYER has one order for both sides",
            "7 * node 1, arc 0 2, arc 0 3, arc 1 3, arc 1 4, arc 3 5, arc 2 5, arc 2 6, arc 4 6, run 0 = 1, fewest = 1",
            "drop 0, run 0, fewest = 0");
        edge("the fewest CROSSINGS of all orders: the most ITEMS in a LAYER",
            "8 * node 1, arc 0 7, arc 1 6, arc 2 7, arc 3 6, arc 4 7, arc 5 6, run 0 = 6, count 0 = 6, fewest = 0, arc 0 6, arc 5 7, run 0, fewest = 1",
            "clear, 8 * node 1, arc 0 7, arc 1 6, arc 0 5, arc 1 4, arc 0 3, arc 1 2, run 0 = 6, count 1 = 6, fewest = 0");
        edge("the fewest CROSSINGS of all orders: the most LAYERS",
            CHAIN_OF_12, "run 0, fewest = 0, arc 0 11, run 0 = 0, fewest = 0, arc 0 10, run 0, fewest = -4");
        edge("-3 no run()", "fewest = -3, node 1, fewest = -3, run 0, fewest = 0, fewest = 0, width 0 2, fewest = -3");
    }

    private static void placeAndRoute() {
        edge("place: -3, -1",
            "3 * node 1, arc 0 1, arc 1 2, arc 0 2, place 0 = -3, run 0, place -1 = -1, place 0 = 0, place 2 = 1, place 3 = -1",
            "place 11 = -1, place 12 = 2, place 13 = -1, place MIN = -1, place MAX = -1");
        edge("place: the last NODE there can be", "12 * node 1, run 0, place 11 = 22, place 12 = -1");
        edge("route: -3 no run(), -1",
            "3 * node 1, arc 0 1, route 0 0 = -3, run 0, route 0 -1 = -1, route 0 0 = 0, route 0 1 = 1, route 0 2 = -1, route 0 MIN = -1",
            "route 0 MAX = -1, route -1 0 = -1, route 1 0 = -1, route MIN 0 = -1, route MAX 0 = -1, route 24 0 = -1");
        edge("route: the last ARC there can be", "2 * node 1, 24 * arc 1 0, run 0, route 23 0 = 1, route 23 1 = 0, route 23 2 = -1, route 24 0 = -1");
        edge("route: of an ARC that is no more", "2 * node 1, 2 * arc 1 0, drop 0, run 0, route 0 0 = -1, route 1 0 = 1");
    }

    private static void wide() {
        edge("0 without any", "wide = -3, run 0, wide = 0, node 1, wide = -3, run 0, wide = 1, width 0 9, wide = -3, run 0, wide = 9");
        edge("the greatest right end of all ITEMS: the greatest there is in one LAYER", "12 * node 9, run 0, place 11 = 110, wide = 119");
        edge("the greatest right end of all ITEMS: not of the last LAYER", "3 * node 9, arc 0 2, run 0, wide = 19");
        edge("the greatest right end of all ITEMS: of a BEND", "3 * node 1, arc 0 1, arc 1 2, arc 0 2, run 0, place 12 = 2, wide = 3");
    }

    private static void tidy() {
        edge("tidy: -1",
            "tidy 0 = -1, node 1, tidy 0 = 0, tidy 1 = -1, tidy -1 = -1, tidy MIN = -1, tidy MAX = -1, 11 * node 1, tidy 11 = -3, tidy 12 = -1");
        edge("tidy: without run(), and behind it",
            "2 * node 1, arc 0 1, width 0 5, tidy 1 = 2, run 0, tidy 1 = 2, width 0 7, tidy 1 = 3, wide = -3");
    }

    // ---- REFUSALS change nothing

    /** The refusals of each call in each kind of state, by hand. */
    private static void refusals() {
        String always = "node 0 = -2, node 10 = -2, width -1 5 = -1, width 12 5 = -1, arc -1 0 = -1, arc 0 12 = -1, drop -1 = -1,"
            + "drop 24 = -1, turned -1 = -1, turned 24 = -1, layer -1 = -1, layer 12 = -1, run -1 = -2, run 21 = -2, tidy -1 = -1, tidy 12 = -1";
        String notRun = "round = -3, count 0 = -3, count -1 = -3, item 0 0 = -3, item 0 -1 = -3, fewest = -3, place 0 = -3, place -1 = -3,"
            + "route 0 0 = -3, route 0 -1 = -3, wide = -3";
        String ran = "count -1 = -1, count 12 = -1, item -1 0 = -1, item 12 0 = -1, item 0 -1 = -1, item 0 36 = -1, place -1 = -1, place 72 = -1,"
            + "route -1 0 = -1, route 24 0 = -1, route 0 -1 = -1, route 0 12 = -1";
        for (String state : STATES) {
            refused(state, always);
        }
        refused("", notRun + ", width 0 5 = -1, arc 0 0 = -1, drop 0 = -1, tidy 0 = -1");
        refused("3 * node 2, run 1, clear", notRun + ", width 0 5 = -1, arc 0 0 = -1, drop 0 = -1, tidy 0 = -1");
        refused("run 0", ran + ", count 0 = -1, item 0 0 = -1, place 0 = -1, place 12 = -1");
        refused(TRIANGLE, notRun + ", width 3 1 = -1, width 0 0 = -2, width 2 10 = -2, arc 1 1 = -1, arc 0 3 = -1, drop 3 = -1, tidy 0 = -3");
        refused(TRIANGLE + ", run 3", ran + ", count 3 = -1, item 1 2 = -1, place 3 = -1, place 13 = -1, route 2 3 = -1, route 3 0 = -1");
        refused(TRIANGLE + ", run 3", "width 3 1 = -1, width 0 0 = -2, width 2 10 = -2, arc 1 1 = -1, arc 3 0 = -1, drop 3 = -1, tidy 2 = -3");
        refused(TRIANGLE + ", run 3, width 0 4", notRun);
        refused("12 * node 9, arc 0 11, arc 11 1, run 4", ran + ", node 1 = -4, node 9 = -4, fewest = -4, tidy 0 = -3, arc 11 11 = -1, drop 2 = -1");
        refused("2 * node 1, 24 * arc 1 0, drop 0, drop 23, run 2", ran + ", arc 0 1 = -4, arc 1 0 = -4, arc 1 1 = -1, drop 0 = -1, drop 23 = -1");
        refused("7 * node 3, run 2", ran + ", fewest = -4, tidy 0 = -3, width 7 3 = -1");
        refused(CHAIN_OF_12 + ", 6 * arc 0 11, run 1, arc 0 2", notRun + ", run 0 = -4, run 20 = -4, node 1 = -4, tidy 0 = -3, drop 18 = -1");
        refused("3 * node 5, arc 0 1, arc 1 2, arc 2 0, run 5", ran + ", tidy 0 = -3, tidy 3 = -1, turned 3 = -1, route 0 3 = -1");
    }

    private static void refused(String state, String calls) {
        sentence = "REFUSALS change nothing, behind: " + state;
        for (String row : calls.split(",")) {
            String[] sides = row.trim().split(" = ");
            Used one = new Used();
            one.play(state);
            int got = one.call(sides[0]);
            if (got != number(sides[1])) {
                fail(sides[0] + " answered " + got + ", due is " + sides[1]);
            }
            sameAs(state, one, sides[0]);
        }
    }

    /** Each call with each argument at an edge: where it is refused, or only asks, nothing changes. */
    private static void refusalsAndQuestionsChangeNothing() {
        String[] oneArgument = {"node", "drop", "turned", "layer", "run", "count", "place", "tidy"};
        String[] twoArguments = {"width", "arc", "item", "route"};
        String[] noArguments = {"turns", "layers", "length", "bends", "round", "fewest", "wide"};
        for (String state : STATES) {
            List<Integer> unchanged = answersBehind(state);
            for (String name : noArguments) {
                leavesAll(state, unchanged, name, 0, 0);
            }
            for (int a : EDGES) {
                for (String name : oneArgument) {
                    leavesAll(state, unchanged, name, a, 0);
                }
                for (int b : EDGES) {
                    for (String name : twoArguments) {
                        leavesAll(state, unchanged, name, a, b);
                    }
                }
            }
        }
    }

    private static void leavesAll(String state, List<Integer> unchanged, String name, int a, int b) {
        boolean mayChange = List.of("node", "width", "arc", "drop", "run").contains(name);
        Used one = new Used();
        one.play(state);
        int got = one.call(name, a, b);
        if (got < 0 || !mayChange) {
            sentence = "REFUSALS and questions change nothing, behind: " + state;
            if (!allAnswers(one).equals(unchanged)) {
                fail("other answers behind " + name + "(" + a + ", " + b + ")");
            }
        }
    }

    private static void sameAs(String state, Used one, String call) {
        if (!allAnswers(one).equals(answersBehind(state))) {
            fail("other answers behind " + call);
        }
    }

    private static List<Integer> answersBehind(String state) {
        Used other = new Used();
        other.play(state);
        return allAnswers(other);
    }

    /** What every call answers: first those that ask, then those that change. */
    private static List<Integer> allAnswers(Used one) {
        List<Integer> answers = new ArrayList<>();
        for (String name : List.of("round", "wide", "fewest", "turns", "layers", "length", "bends")) {
            answers.add(one.call(name, 0, 0));
        }
        addEach(answers, one, "turned", 24);
        addEach(answers, one, "layer", 12);
        addEach(answers, one, "tidy", 12);
        addEach(answers, one, "count", 12);
        addEach(answers, one, "place", 72);
        for (int first = 0; first < 24; first++) {
            addUntilRefused(answers, one, "route", first);
            if (first < 12) {
                addUntilRefused(answers, one, "item", first);
            }
        }
        answers.add(one.call("run", 3, 0));
        answers.add(one.call("round", 0, 0));
        for (int v = 0; v < 12; v++) {
            answers.add(one.call("width", v, 5));
        }
        answers.add(one.call("node", 1, 0));
        answers.add(one.call("arc", 0, 1));
        for (int a = 0; a < 24; a++) {
            answers.add(one.call("drop", a, 0));
        }
        answers.add(one.call("clear", 0, 0));
        return answers;
    }

    private static void addEach(List<Integer> answers, Used one, String name, int end) {
        for (int i = -1; i <= end; i++) {
            answers.add(one.call(name, i, 0));
        }
    }

    private static void addUntilRefused(List<Integer> answers, Used one, String name, int first) {
        int answer = 0;
        for (int k = 0; answer >= 0; k++) {
            answer = one.call(name, first, k);
            answers.add(answer);
        }
    }

    /** Behind clear() every state is as that of a new object, whatever was ahead of it. */
    private static void clearedIsAsNew() {
        for (String ahead : STATES) {
            for (String behind : STATES) {
                sentence = "No NODES any more, ahead: " + ahead + ", behind: " + behind;
                Used one = new Used();
                one.play(ahead);
                one.call("clear", 0, 0);
                one.play(behind);
                sameAs(behind, one, "clear");
            }
        }
    }

    private static void lastCall() {
        sentence = "an object is used for at most 512 calls";
        Used one = new Used();
        for (int i = 0; i < 35; i++) {
            one.play("node 5 = 0, node 3 = 1, node 2 = 2, arc 0 1 = 0, arc 1 2 = 1, arc 0 2 = 2, run 2 = 0, place 12 = 5, wide = 6");
            one.play("drop 2 = 2, tidy 0 = 0, tidy 2 = 1, run 20 = 0, clear = 3");
        }
        one.play("12 * node 9, arc 0 1 = 0, arc 1 0 = 1, turned 0 = 1, turned 1 = 0, node 9 = -4, run 20 = 0, wide = 109, width 11 1 = 9, wide = -3, clear = 12");
        if (one.calls != MOST_CALLS) {
            fail(one.calls + " calls were made");
        }
    }
}
