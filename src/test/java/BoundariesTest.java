/** The boundaries of each call: each sentence of the promises that names one, with a test of its own. */
public final class BoundariesTest {
    private static final int NONE = -1, OUTSIDE = -2, UNKNOWN = -3, ROOM = -4;

    public static void main(String[] args) {
        noNodes();
        objectsBesideEachOther();
        newNode();
        newNodeWithoutEdges();
        newNodeInSets();
        clearOfNone();
        clearOfAll();
        clearMakesRoom();
        clearForgetsColours();
        edgeThereOrGone();
        edgeEveryOne();
        colourThatItHad();
        told();
        degree();
        both();
        count();
        placed();
        placedByEachDegree();
        placedByThreeInThrees();
        pair();
        colouredBySets();
        colouredByNoColour();
        mixed();
        changeOfNoEdge();
        changeOfAnEdgeThere();
        changeOfAnEdgeGone();
        changeOfTheLatestAlone();
        changeOfTheLatestDone();
        changeSinceNode();
        changeSinceClear();
        changeAndColour();
        after();
        afterAsChange();
        nthFirstAndLast();
        nthOfNoSet();
        nthOfNoMember();
        sort();
        minusOneInPlaceOfTheFourthAlone();
        rank();
        rankAmongItsSort();
        like();
        likeItself();
        likeForEachDegree();
        likeForNoOneDegreeLess();
        likeByPlacedAlone();
        likeForEachSize();
        likeWhateverTheColour();
        closedOutside();
        closedWithoutPairs();
        closedInLowestTerms();
        rings();
        ringsBy();
        ways();
        Due.end();
    }

    private static int chosen(int from, int size) {
        int ways = 1;
        for (int i = 0; i < size; i++) {
            ways = ways * (from - i) / (i + 1);
        }
        return ways;
    }

    // ---- Promise 1: A new object

    private static void noNodes() {
        Watched p = new Watched("SmallPieces(): No NODES");
        p.keeps(0, "told", 0);
        p.due(0, "told", 1);
        p.due(UNKNOWN, "degree", 0);
        p.due(UNKNOWN, "both", 0, 1);
        p.due(UNKNOWN, "edge", 0, 1);
        p.due(UNKNOWN, "colour", 0, 0);
        p.due(UNKNOWN, "like", 0, 0);
        p.due(UNKNOWN, "sort", 0, 1, 2, -1);
        p.due(UNKNOWN, "rank", 0, 1, 2, 3);
        p.due(UNKNOWN, "closed", 0, 1);
        p.due(UNKNOWN, "ringsBy", 3, 0);
        p.due(UNKNOWN, "ways", 1, 0, 1);
        for (int size = 3; size <= 4; size++) {
            for (int sort : Sorts.of(size)) {
                p.due(0, "count", size, sort);
                p.due(0, "coloured", size, sort, 15);
                p.due(0, "mixed", size, sort);
                p.due(0, "change", size, sort);
                p.due(NONE, "nth", size, sort, 0, 0);
                p.due(UNKNOWN, "placed", size, sort, 0, 0);
                p.due(UNKNOWN, "pair", size, sort, 0, 1);
                p.due(UNKNOWN, "after", size, sort, 0, 1);
            }
        }
        for (int l = 3; l <= 6; l++) {
            p.due(0, "rings", l);
        }
        p.due(0, "clear");
        p.due(0, "node", 0);
    }

    private static void objectsBesideEachOther() {
        Watched full = Watched.complete("SmallPieces(): No NODES, whatever other objects have", 14);
        Watched other = new Watched("SmallPieces(): No NODES, whatever other objects have");
        other.due(0, "told", 0);
        other.due(0, "count", 4, 3333);
        other.due(0, "node", 3);
        other.due(1, "node", 3);
        other.due(1, "edge", 0, 1);
        other.due(2, "clear");
        full.due(14, "told", 0);
        full.due(91, "told", 1);
        full.due(1001, "count", 4, 3333);
        full.due(0, "colour", 0, 0);
    }

    // ---- Promise 2: node

    private static void newNode() {
        Watched p = new Watched("node: A NODE more: its number; ROOM");
        for (int x = 0; x < 14; x++) {
            p.due(x, "told", 0);
            p.due(x, "node", 3 - x % 4);
            p.due(x + 1, "told", 0);
            p.due(3 - x % 4, "colour", x, 0);
        }
        p.keeps(ROOM, "node", 0);
        p.keeps(ROOM, "node", 3);
        p.due(14, "told", 0);
    }

    private static void newNodeWithoutEdges() {
        Watched p = Watched.complete("node: without EDGES", 13);
        p.due(13, "node", 0);
        p.due(0, "degree", 13);
        p.due(78, "told", 1);
        for (int x = 0; x < 13; x++) {
            p.due(12, "degree", x);
            p.due(0, "ways", 1, x, 13);
        }
        p.ask("edge", 0, 13);
        p.ask("clear");
        for (int x = 0; x < 14; x++) {
            p.due(x, "node", 0);
            p.due(0, "degree", x);
        }
        p.due(0, "told", 1);
        p.due(1001, "count", 4, 0);
    }

    private static void newNodeInSets() {
        Watched p = Watched.graph("node: A NODE more, in SETS too", 2, 0, 1);
        p.due(0, "count", 3, 110);
        p.due(2, "node", 0);
        p.due(1, "count", 3, 110);
        p.due(0, "count", 4, 1100);
        p.due(3, "node", 0);
        p.due(2, "count", 3, 110);
        p.due(1, "count", 4, 1100);
        p.due(110, "sort", 3, 1, 0, -1);
        p.due(1100, "sort", 3, 1, 0, 2);
    }

    // ---- Promise 3: clear

    private static void clearOfNone() {
        Watched p = new Watched("clear: how many there were, none");
        p.keeps(0, "clear");
        p.keeps(0, "clear");
        p.due(0, "node", 0);
        p.due(1, "clear");
        p.due(0, "clear");
    }

    private static void clearOfAll() {
        Watched p = Watched.complete("clear: No NODES: how many there were, 14", 14);
        p.due(14, "clear");
        p.due(0, "told", 0);
        p.due(0, "told", 1);
        p.due(UNKNOWN, "degree", 0);
        p.due(UNKNOWN, "degree", 13);
        p.due(UNKNOWN, "edge", 0, 13);
        p.due(UNKNOWN, "colour", 0, 0);
        p.due(0, "count", 3, 222);
        p.due(0, "count", 4, 3333);
        p.due(0, "rings", 3);
        p.same(new Watched("clear"));
    }

    private static void clearMakesRoom() {
        String sentence = "clear: No NODES, and room for 14 again";
        Watched p = Watched.complete(sentence, 14);
        p.due(ROOM, "node", 0);
        p.due(14, "clear");
        for (int x = 0; x < 14; x++) {
            p.due(x, "node", x % 4);
        }
        p.same(Watched.graph(sentence, 14));
        p.keeps(ROOM, "node", 0);
    }

    private static void clearForgetsColours() {
        Watched p = Watched.graph("clear: No NODES, of no COLOUR", 6);
        p.ask("clear");
        for (int x = 0; x < 3; x++) {
            p.due(x, "node", 3);
        }
        p.due(1, "coloured", 3, 0, 8);
        p.due(0, "coloured", 3, 0, 7);
        p.due(0, "mixed", 3, 0);
        p.due(3, "colour", 0, 0);
    }

    // ---- Promise 4: edge

    private static void edgeThereOrGone() {
        Watched p = Watched.graph("edge: if it is there it is gone (0), else it is there (1)", 14);
        int[][] ends = {{0, 1}, {0, 13}, {13, 12}, {6, 7}};
        for (int[] of : ends) {
            for (int time = 0; time < 3; time++) {
                p.due(1, "edge", of[0], of[1]);
                p.due(1, "told", 1);
                p.due(1, "degree", of[0]);
                p.due(1, "degree", of[1]);
                p.due(12, "count", 3, 110);
                p.due(66, "count", 4, 1100);
                p.due(0, "edge", of[1], of[0]);
                p.due(0, "told", 1);
                p.due(0, "degree", of[0]);
                p.due(0, "degree", of[1]);
                p.due(364, "count", 3, 0);
                p.due(1001, "count", 4, 0);
            }
        }
    }

    private static void edgeEveryOne() {
        Watched p = Watched.graph("edge: every one there, every one gone", 14);
        for (int there = 1; there >= 0; there--) {
            for (int a = 0; a < 14; a++) {
                for (int b = a + 1; b < 14; b++) {
                    p.due(there, "edge", a, b);
                }
            }
            p.due(there * 91, "told", 1);
            p.due(there * 1001, "count", 4, 3333);
            p.due(1001 - there * 1001, "count", 4, 0);
            for (int x = 0; x < 14; x++) {
                p.due(there * 13, "degree", x);
            }
        }
    }

    // ---- Promise 5: colour

    private static void colourThatItHad() {
        Watched p = Watched.graph("colour: A NODE gets a COLOUR: the one that it had", 14, 0, 13);
        for (int x = 0; x < 14; x += 13) {
            p.ask("colour", x, 0);
            for (int from = 0; from < 4; from++) {
                for (int to = 0; to < 4; to++) {
                    p.ask("colour", x, from);
                    p.due(from, "colour", x, to);
                    p.due(to, "colour", x, to);
                }
            }
        }
        p.due(1, "colour", 1, 1);
        p.due(0, "colour", 12, 0);
        p.keeps(UNKNOWN, "colour", 14, 0);
        p.keeps(UNKNOWN, "colour", -1, 0);
        p.keeps(OUTSIDE, "colour", 0, 4);
        p.keeps(OUTSIDE, "colour", 13, -1);
        p.due(1, "told", 1);
    }

    // ---- Promises 6 to 8: told, degree, both

    private static void told() {
        Watched p = new Watched("told: NODES (what = 0), EDGES (1). OUTSIDE");
        p.due(0, "told", 0);
        p.due(0, "told", 1);
        for (int wrong : Wrong.PARTS) {
            p.keeps(OUTSIDE, "told", wrong);
        }
        for (int nodes = 1; nodes <= 14; nodes++) {
            p.ask("node", 0);
            p.due(nodes, "told", 0);
            p.due(0, "told", 1);
        }
        int edges = 0;
        for (int a = 0; a < 14; a++) {
            for (int b = 0; b < a; b++) {
                p.ask("edge", a, b);
                edges++;
                p.due(edges, "told", 1);
            }
        }
        p.due(14, "told", 0);
        for (int wrong : Wrong.PARTS) {
            p.due(OUTSIDE, "told", wrong);
        }
    }

    private static void degree() {
        Watched p = Watched.graph("degree: With how many NODES an EDGE joins one (none to 13)", 14);
        for (int x = 0; x < 13; x++) {
            p.due(x, "degree", 13);
            p.due(0, "degree", x);
            p.ask("edge", 13, x);
            p.due(1, "degree", x);
        }
        p.due(13, "degree", 13);
        for (int x = 0; x < 13; x++) {
            p.ask("edge", x, 13);
            p.due(12 - x, "degree", 13);
        }
        new Watched("degree: UNKNOWN, of no NODES").due(UNKNOWN, "degree", 0);
        Watched.graph("degree: of one NODE", 1).due(0, "degree", 0);
    }

    private static void both() {
        Watched p = Watched.graph("both: How many NODES EDGES join to both (none to 12)", 14, 0, 13);
        for (int x = 1; x < 13; x++) {
            p.due(x - 1, "both", 0, 13);
            p.ask("edge", 0, x);
            p.due(x - 1, "both", 13, 0);
            p.ask("edge", x, 13);
        }
        p.due(12, "both", 0, 13);
        p.due(2, "both", 1, 12);
        p.due(1, "both", 0, 1);
        p.ask("edge", 0, 13);
        p.due(12, "both", 0, 13);
        p.due(0, "both", 0, 1);
        Watched.graph("both: the two themselves are not joined to both", 2, 0, 1).due(0, "both", 0, 1);
    }

    // ---- Promises 9 to 13: count, placed, pair, coloured, mixed

    private static void count() {
        Watched none = Watched.graph("count: How many SETS have a SORT, without an EDGE", 14);
        Watched all = Watched.complete("count: How many SETS have a SORT, with every EDGE", 14);
        for (int size = 3; size <= 4; size++) {
            int sets = size == 3 ? 364 : 1001;
            for (int sort : Sorts.of(size)) {
                none.due(sort == 0 ? sets : 0, "count", size, sort);
                all.due(sort == 222 || sort == 3333 ? sets : 0, "count", size, sort);
            }
        }
        Watched two = Watched.graph("count: SETS of three of two NODES", 2, 0, 1);
        two.due(0, "count", 3, 0);
        two.due(0, "count", 3, 110);
        Watched three = Watched.graph("count: SETS of four of three NODES", 3, 0, 1);
        three.due(1, "count", 3, 110);
        three.due(0, "count", 4, 0);
        three.due(0, "count", 4, 1100);
    }

    private static void placed() {
        Watched none = Watched.graph("placed: In how many of them a NODE has a DEGREE, without an EDGE", 14);
        Watched all = Watched.complete("placed: In how many of them a NODE has a DEGREE, with every EDGE", 14);
        for (int x = 0; x < 14; x += 13) {
            for (int degree = 0; degree <= 3; degree++) {
                none.due(degree == 0 ? 78 : 0, "placed", 3, 0, degree, x);
                none.due(degree == 0 ? 286 : 0, "placed", 4, 0, degree, x);
                all.due(degree == 2 ? 78 : 0, "placed", 3, 222, degree, x);
                all.due(degree == 3 ? 286 : 0, "placed", 4, 3333, degree, x);
                all.due(0, "placed", 3, 0, degree, x);
                all.due(0, "placed", 4, 3322, degree, x);
            }
            for (int wrong : Wrong.DEGREES) {
                none.due(OUTSIDE, "placed", 3, 0, wrong, x);
                all.due(OUTSIDE, "placed", 4, 3333, wrong, x);
            }
        }
        Watched two = Watched.graph("placed: of two NODES", 2, 0, 1);
        two.due(0, "placed", 3, 110, 1, 0);
        two.due(0, "placed", 3, 0, 0, 1);
    }

    private static void placedByEachDegree() {
        Watched p = Watched.graph("placed: a DEGREE (0 to 3)", 5, 0, 1, 0, 2, 0, 3, 1, 2);
        int[][] ofPaw = {{0, 0, 0, 1}, {0, 0, 1, 0}, {0, 0, 1, 0}, {0, 1, 0, 0}, {0, 0, 0, 0}};
        int[][] ofTriangle = {{0, 0, 1, 0}, {0, 0, 1, 0}, {0, 0, 1, 0}, {0, 0, 0, 0}, {1, 0, 0, 0}};
        for (int x = 0; x < 5; x++) {
            for (int degree = 0; degree <= 3; degree++) {
                p.due(ofPaw[x][degree], "placed", 4, 3221, degree, x);
                p.due(ofTriangle[x][degree], "placed", 4, 2220, degree, x);
            }
        }
        p.due(2, "placed", 3, 211, 2, 0);
        p.due(2, "placed", 3, 211, 1, 3);
        p.due(4, "placed", 3, 110, 0, 4);
        p.due(1, "placed", 3, 110, 1, 3);
        p.due(0, "placed", 3, 110, 2, 3);
    }

    private static void placedByThreeInThrees() {
        Watched p = Watched.complete("placed: a DEGREE (0 to 3), 3 in no SET of three", 5);
        for (int sort : Sorts.OF_THREE) {
            p.due(0, "placed", 3, sort, 3, 0);
            p.due(0, "placed", 3, sort, 3, 4);
            p.due(OUTSIDE, "placed", 3, sort, 4, 0);
            p.due(UNKNOWN, "placed", 3, sort, 3, 5);
        }
    }

    private static void pair() {
        Watched none = Watched.graph("pair: In how many of them both NODES are, without an EDGE", 14);
        Watched all = Watched.complete("pair: In how many of them both NODES are, with every EDGE", 14);
        int[][] pairs = {{0, 1}, {0, 13}, {13, 0}, {13, 12}, {6, 7}};
        for (int[] of : pairs) {
            none.due(12, "pair", 3, 0, of[0], of[1]);
            none.due(66, "pair", 4, 0, of[0], of[1]);
            none.due(0, "pair", 3, 110, of[0], of[1]);
            all.due(12, "pair", 3, 222, of[0], of[1]);
            all.due(66, "pair", 4, 3333, of[0], of[1]);
            all.due(0, "pair", 4, 0, of[0], of[1]);
        }
        Watched p = Watched.graph("pair: of as few NODES as can be", 2, 0, 1);
        p.due(0, "pair", 3, 110, 0, 1);
        p.due(0, "pair", 4, 1100, 1, 0);
        p.ask("node", 0);
        p.due(1, "pair", 3, 110, 0, 1);
        p.due(1, "pair", 3, 110, 0, 2);
        p.due(1, "pair", 3, 110, 2, 1);
        p.due(0, "pair", 4, 1100, 2, 1);
        p.due(UNKNOWN, "pair", 3, 110, 2, 3);
    }

    private static void colouredBySets() {
        int[] having = {4, 4, 3, 3};
        Watched none = Watched.graph("coloured: NODES of these COLOURS alone (bits)", 14);
        Watched all = Watched.complete("coloured: NODES of these COLOURS alone (bits)", 14);
        for (int colours = 0; colours < 16; colours++) {
            int nodes = 0;
            for (int c = 0; c < 4; c++) {
                nodes += having[c] * (colours >> c & 1);
            }
            none.due(chosen(nodes, 3), "coloured", 3, 0, colours);
            none.due(chosen(nodes, 4), "coloured", 4, 0, colours);
            none.due(0, "coloured", 4, 3333, colours);
            all.due(chosen(nodes, 3), "coloured", 3, 222, colours);
            all.due(chosen(nodes, 4), "coloured", 4, 3333, colours);
        }
        for (int wrong : Wrong.COLOUR_SETS) {
            none.due(OUTSIDE, "coloured", 3, 0, wrong);
            all.due(OUTSIDE, "coloured", 4, 3333, wrong);
            new Watched("coloured: OUTSIDE, of no NODES").due(OUTSIDE, "coloured", 3, 0, wrong);
        }
    }

    private static void colouredByNoColour() {
        Watched p = Watched.complete("coloured: these COLOURS alone, none of them", 5);
        for (int size = 3; size <= 4; size++) {
            for (int sort : Sorts.of(size)) {
                p.due(0, "coloured", size, sort, 0);
            }
        }
        p.due(10, "coloured", 3, 222, 15);
    }

    private static void mixed() {
        Watched none = Watched.graph("mixed: no two NODES have the same COLOUR", 14);
        none.due(168, "mixed", 3, 0);
        none.due(144, "mixed", 4, 0);
        none.due(0, "mixed", 4, 3333);
        Watched all = Watched.complete("mixed: no two NODES have the same COLOUR", 14);
        all.due(168, "mixed", 3, 222);
        all.due(144, "mixed", 4, 3333);
        all.due(0, "mixed", 4, 0);
        Watched four = Watched.graph("mixed: four NODES of four COLOURS", 4);
        four.due(1, "mixed", 4, 0);
        four.due(4, "mixed", 3, 0);
        four.ask("colour", 3, 0);
        four.due(0, "mixed", 4, 0);
        four.due(2, "mixed", 3, 0);
        Watched one = Watched.graph("mixed: all of one COLOUR", 5);
        for (int x = 0; x < 5; x++) {
            one.ask("colour", x, 3);
        }
        one.due(0, "mixed", 3, 0);
        one.due(0, "mixed", 4, 0);
    }

    // ---- Promises 14 and 15: change, after

    private static void zeroChange(Watched p) {
        for (int size = 3; size <= 4; size++) {
            for (int sort : Sorts.of(size)) {
                p.due(0, "change", size, sort);
            }
        }
    }

    private static void changeOfNoEdge() {
        zeroChange(new Watched("change: 0 if there was none, of a new object"));
        zeroChange(Watched.graph("change: 0 if there was none, of 14 NODES", 14));
        zeroChange(Watched.graph("change: of two NODES, without SETS", 2, 0, 1));
    }

    private static void changeOfAnEdgeThere() {
        Watched p = Watched.graph("change: By how many there are more (below 0: less), the first EDGE", 14, 13, 0);
        p.due(-12, "change", 3, 0);
        p.due(12, "change", 3, 110);
        p.due(0, "change", 3, 211);
        p.due(-66, "change", 4, 0);
        p.due(66, "change", 4, 1100);
        p.due(0, "change", 4, 3333);
        Watched all = Watched.complete("change: By how many there are more (below 0: less), the last EDGE", 14);
        all.due(12, "change", 3, 222);
        all.due(-12, "change", 3, 211);
        all.due(66, "change", 4, 3333);
        all.due(-66, "change", 4, 3322);
    }

    private static void changeOfAnEdgeGone() {
        Watched p = Watched.graph("change: By how many there are less, the only EDGE gone", 14, 13, 0, 0, 13);
        p.due(12, "change", 3, 0);
        p.due(-12, "change", 3, 110);
        p.due(66, "change", 4, 0);
        p.due(-66, "change", 4, 1100);
        Watched all = Watched.complete("change: By how many there are less, one of all EDGES gone", 14);
        all.due(0, "edge", 0, 1);
        all.due(-12, "change", 3, 222);
        all.due(12, "change", 3, 211);
        all.due(-66, "change", 4, 3333);
        all.due(66, "change", 4, 3322);
        all.due(0, "change", 4, 2222);
    }

    private static void changeOfTheLatestAlone() {
        Watched p = Watched.graph("change: than ahead of the latest edge()", 4, 0, 1, 1, 2);
        p.due(-1, "change", 3, 0);
        p.due(0, "change", 3, 110);
        p.due(1, "change", 3, 211);
        p.due(0, "change", 4, 0);
        p.due(-1, "change", 4, 1100);
        p.due(1, "change", 4, 2110);
        p.ask("edge", 2, 3);
        p.due(1, "change", 3, 211);
        p.due(0, "change", 3, 110);
        p.due(-1, "change", 4, 2110);
        p.due(1, "change", 4, 2211);
        p.ask("edge", 0, 1);
        p.due(-1, "change", 4, 2211);
        p.due(1, "change", 4, 2110);
    }

    private static void changeOfTheLatestDone() {
        String sentence = "change: the latest edge() that was done";
        Watched p = Watched.graph(sentence, 5, 0, 1);
        Watched full = Watched.complete(sentence, 14);
        full.keeps(ROOM, "node", 0);
        full.due(66, "change", 4, 3333);
        for (int[] ends : new int[][] {{0, 0}, {2, 2}, {0, 5}, {-1, 0}, {14, 15}, {Wrong.LEAST, Wrong.MOST}}) {
            p.keeps(UNKNOWN, "edge", ends[0], ends[1]);
            p.due(-3, "change", 3, 0);
            p.due(3, "change", 4, 1100);
        }
        p.keeps(OUTSIDE, "node", 4);
        p.keeps(OUTSIDE, "node", -1);
        p.keeps(1, "after", 3, 211, 1, 2);
        p.due(-3, "change", 3, 0);
    }

    private static void changeSinceNode() {
        Watched p = Watched.graph("change: 0 if there was none since the latest node()", 4, 0, 1);
        p.due(-2, "change", 3, 0);
        p.due(4, "node", 0);
        zeroChange(p);
        p.ask("edge", 0, 1);
        p.due(3, "change", 3, 0);
        p.due(5, "node", 0);
        zeroChange(p);
    }

    private static void changeSinceClear() {
        Watched p = Watched.graph("change: 0 if there was none since the latest clear()", 4, 0, 1);
        p.due(4, "clear");
        zeroChange(p);
        for (int x = 0; x < 4; x++) {
            p.ask("node", 0);
        }
        zeroChange(p);
        p.ask("edge", 0, 1);
        p.due(-2, "change", 3, 0);
        p.ask("clear");
        p.ask("clear");
        zeroChange(p);
    }

    private static void changeAndColour() {
        Watched p = Watched.graph("change: colour() is no node(), clear() or edge()", 4, 0, 1);
        p.due(0, "colour", 0, 3);
        p.due(2, "colour", 2, 2);
        p.due(-2, "change", 3, 0);
        p.due(1, "change", 4, 1100);
    }

    private static void after() {
        Watched none = Watched.graph("after: By how many there would be more, without an EDGE", 14);
        Watched all = Watched.complete("after: By how many there would be more, with every EDGE", 14);
        for (int[] ends : new int[][] {{0, 1}, {0, 13}, {13, 0}, {12, 13}}) {
            none.due(-12, "after", 3, 0, ends[0], ends[1]);
            none.due(12, "after", 3, 110, ends[0], ends[1]);
            none.due(-66, "after", 4, 0, ends[0], ends[1]);
            none.due(66, "after", 4, 1100, ends[0], ends[1]);
            none.due(0, "after", 4, 3333, ends[0], ends[1]);
            all.due(-12, "after", 3, 222, ends[0], ends[1]);
            all.due(12, "after", 3, 211, ends[0], ends[1]);
            all.due(-66, "after", 4, 3333, ends[0], ends[1]);
            all.due(66, "after", 4, 3322, ends[0], ends[1]);
            all.due(0, "after", 4, 0, ends[0], ends[1]);
        }
        none.due(0, "told", 1);
        all.due(91, "told", 1);
        Watched two = Watched.graph("after: of two NODES, without SETS", 2);
        two.keeps(0, "after", 3, 0, 0, 1);
        two.keeps(0, "after", 4, 1100, 0, 1);
    }

    private static void afterAsChange() {
        String sentence = "after: if edge() were done with these NODES";
        int[] ends = {0, 1, 1, 2, 2, 3, 3, 0, 0, 2, 0, 4, 4, 5};
        for (int a = 0; a < 6; a++) {
            for (int b = 0; b < 6; b++) {
                if (a != b) {
                    Watched told = Watched.graph(sentence, 6, ends);
                    Watched done = Watched.graph(sentence, 6, ends);
                    done.ask("edge", a, b);
                    for (int size = 3; size <= 4; size++) {
                        for (int sort : Sorts.of(size)) {
                            told.due(done.ask("change", size, sort), "after", size, sort, a, b);
                        }
                    }
                    told.same(Watched.graph(sentence, 6, ends));
                }
            }
        }
    }

    // ---- Promises 16 to 18: nth, sort, rank

    private static void nthFirstAndLast() {
        Watched p = Watched.graph("nth: both from 0 on; NONE: there is none such", 14);
        for (int i = 0; i < 4; i++) {
            p.due(i, "nth", 4, 0, 0, i);
            p.due(10 + i, "nth", 4, 0, 1000, i);
            p.due(NONE, "nth", 4, 0, 1001, i);
            p.due(NONE, "nth", 4, 0, -1, i);
            p.due(i < 3 ? i : NONE, "nth", 3, 0, 0, i);
            p.due(i < 3 ? 11 + i : NONE, "nth", 3, 0, 363, i);
            p.due(NONE, "nth", 3, 0, 364, i);
        }
    }

    private static void nthOfNoSet() {
        for (int nodes : new int[] {0, 2, 3, 14}) {
            Watched p = Watched.graph("nth: no SET of this SORT", nodes);
            p.due(NONE, "nth", 3, 110, 0, 0);
            p.due(NONE, "nth", 4, 3333, 0, 0);
            p.due(nodes < 3 ? NONE : 0, "nth", 3, 0, 0, 0);
            p.due(nodes < 4 ? NONE : 0, "nth", 4, 0, 0, 0);
            for (int k : new int[] {Wrong.LEAST, -1001, -364, -2, -1, 1001, 1365, 65536, Wrong.MOST}) {
                p.due(NONE, "nth", 3, 0, k, 0);
                p.due(NONE, "nth", 4, 0, k, 0);
            }
        }
    }

    private static void nthOfNoMember() {
        Watched p = Watched.graph("nth: The i-th NODE, from the least one on", 8, 7, 2, 2, 5, 5, 7);
        p.due(2, "nth", 3, 222, 0, 0);
        p.due(5, "nth", 3, 222, 0, 1);
        p.due(7, "nth", 3, 222, 0, 2);
        p.due(NONE, "nth", 3, 222, 0, 3);
        p.due(0, "nth", 4, 2220, 0, 0);
        p.due(7, "nth", 4, 2220, 0, 3);
        p.due(6, "nth", 4, 2220, 4, 2);
        p.due(NONE, "nth", 4, 2220, 5, 0);
        p.due(NONE, "nth", 4, 2220, 0, 4);
        for (int i : new int[] {Wrong.LEAST, -32, -4, -2, -1, 4, 5, 7, 31, 32, 35, Wrong.MOST}) {
            p.due(NONE, "nth", 3, 222, 0, i);
            p.due(NONE, "nth", 4, 2220, 0, i);
            p.due(NONE, "nth", 4, 2220, -1, i);
        }
    }

    private static void sort() {
        Watched p = Watched.graph("sort: The SORT of the SET of these NODES", 14, 13, 12, 12, 11, 11, 13, 13, 10);
        int[][] orders = {{0, 1, 2, 3}, {3, 2, 1, 0}, {2, 0, 3, 1}, {1, 3, 0, 2}};
        for (int[] by : orders) {
            p.due(3221, "sort", 10 + by[0], 10 + by[1], 10 + by[2], 10 + by[3]);
            p.due(0, "sort", by[0], by[1], by[2], by[3]);
        }
        p.due(222, "sort", 13, 11, 12, -1);
        p.due(211, "sort", 10, 13, 12, -1);
        p.due(110, "sort", 10, 11, 12, -1);
        p.due(0, "sort", 0, 1, 13, -1);
        p.due(1100, "sort", 0, 1, 13, 12);
        Watched three = Watched.graph("sort: of three NODES", 3, 0, 1);
        three.due(110, "sort", 0, 1, 2, -1);
        three.due(UNKNOWN, "sort", 0, 1, 2, 3);
        Watched.graph("sort: of two NODES", 2, 0, 1).due(UNKNOWN, "sort", 0, 1, 2, -1);
    }

    private static void minusOneInPlaceOfTheFourthAlone() {
        Watched p = Watched.complete("sort, rank: (d = -1: of three)", 14);
        p.due(222, "sort", 11, 12, 13, -1);
        p.due(363, "rank", 11, 12, 13, -1);
        for (String name : new String[] {"sort", "rank"}) {
            for (int d : Wrong.NODES) {
                if (d != -1) {
                    p.due(UNKNOWN, name, 0, 1, 2, d);
                }
            }
            for (int d = -1; d <= 3; d += 4) {
                p.due(UNKNOWN, name, -1, 1, 2, d);
                p.due(UNKNOWN, name, 0, -1, 2, d);
                p.due(UNKNOWN, name, 0, 1, -1, d);
                p.due(UNKNOWN, name, -1, -1, -1, d);
            }
        }
    }

    private static void rank() {
        Watched p = Watched.graph("rank: How many SETS are ahead (none to all others)", 14);
        p.due(0, "rank", 2, 1, 0, -1);
        p.due(1, "rank", 0, 1, 3, -1);
        p.due(363, "rank", 13, 11, 12, -1);
        p.due(0, "rank", 3, 0, 2, 1);
        p.due(1, "rank", 0, 1, 2, 4);
        p.due(1000, "rank", 13, 10, 12, 11);
        Watched.graph("rank: the only SET", 3, 0, 1, 1, 2).due(0, "rank", 2, 0, 1, -1);
        Watched.graph("rank: of fewer NODES", 3).due(UNKNOWN, "rank", 0, 1, 2, 3);
    }

    private static void rankAmongItsSort() {
        Watched p = Watched.graph("rank: SETS of its SIZE and SORT", 5, 1, 3);
        p.due(0, "rank", 0, 1, 3, -1);
        p.due(1, "rank", 1, 2, 3, -1);
        p.due(2, "rank", 1, 3, 4, -1);
        p.due(0, "rank", 0, 1, 2, -1);
        p.due(6, "rank", 2, 3, 4, -1);
        p.due(0, "rank", 0, 1, 2, 3);
        p.due(1, "rank", 0, 1, 3, 4);
        p.due(2, "rank", 1, 2, 3, 4);
        p.due(0, "rank", 0, 1, 2, 4);
        p.due(1, "rank", 0, 2, 3, 4);
    }

    // ---- Promises 19 and 20: like, closed

    private static void like() {
        Watched all = Watched.complete("like: the same placed() (1, 0), with every EDGE", 14);
        all.due(1, "like", 0, 13);
        all.ask("edge", 0, 13);
        all.due(1, "like", 0, 13);
        all.due(1, "like", 1, 12);
        all.due(0, "like", 0, 1);
        all.due(0, "like", 12, 13);
        Watched none = Watched.graph("like: the same placed() (1, 0), without an EDGE", 14);
        none.due(1, "like", 0, 13);
        none.ask("edge", 0, 13);
        none.due(1, "like", 13, 0);
        none.due(0, "like", 12, 13);
        Watched two = Watched.graph("like: without SETS", 2, 0, 1);
        two.due(1, "like", 0, 1);
        two.due(UNKNOWN, "like", 0, 2);
        two.due(UNKNOWN, "like", -1, 0);
    }

    private static void likeItself() {
        for (int nodes : new int[] {1, 2, 5, 14}) {
            Watched p = Watched.graph("like: one NODE told twice is like itself", nodes);
            for (int x = 0; x < nodes; x++) {
                p.due(1, "like", x, x);
            }
            p.due(UNKNOWN, "like", nodes, nodes);
            for (int wrong : Wrong.NODES) {
                p.due(UNKNOWN, "like", wrong, wrong);
            }
        }
        new Watched("like: UNKNOWN, of no NODES").due(UNKNOWN, "like", 0, 0);
    }

    private static void likeForEachDegree() {
        Watched line = Watched.graph("like: for each DEGREE", 3, 0, 1, 1, 2);
        line.due(1, "like", 0, 2);
        line.due(0, "like", 0, 1);
        Watched star = Watched.graph("like: for each DEGREE", 4, 3, 0, 3, 1, 3, 2);
        star.due(1, "like", 0, 2);
        star.due(0, "like", 3, 2);
        Watched paw = Watched.graph("like: for each DEGREE", 4, 0, 1, 0, 2, 0, 3, 1, 2);
        paw.due(1, "like", 1, 2);
        paw.due(0, "like", 0, 1);
        paw.due(0, "like", 2, 3);
    }

    private static void likeForNoOneDegreeLess() {
        String sentence = "like: for each DEGREE, where all but one are the same";
        Watched byOne = Watched.graph(sentence, 8, 1, 2, 1, 4, 3, 4, 0, 5, 2, 5, 5, 7, 6, 7);
        byOne.due(0, "like", 1, 7);
        Watched byTwo = Watched.graph(sentence, 7, 0, 1, 1, 2, 0, 3, 1, 3, 2, 3, 2, 4, 3, 4, 0, 5, 1, 5, 2, 5, 0, 6,
                3, 6, 4, 6);
        byTwo.due(0, "like", 4, 5);
        // Both NODES are in as many SETS of each SORT.
        Watched inAsMany = Watched.graph(sentence, 8, 0, 1, 0, 2, 0, 3, 1, 3, 2, 3, 0, 4, 1, 4, 0, 5, 2, 5, 4, 5, 0, 6,
                1, 6, 2, 6, 4, 6, 1, 7, 3, 7, 5, 7, 6, 7);
        inAsMany.due(0, "like", 2, 3);
    }

    private static void likeByPlacedAlone() {
        // A ring of five beside one of six: no SET of four tells their NODES apart, though the RINGS do.
        Watched p = Watched.graph("like: the same placed(), whatever else is not the same", 11, 0, 1, 1, 2, 2, 3, 3, 4,
                4, 0, 5, 6, 6, 7, 7, 8, 8, 9, 9, 10, 10, 5);
        p.due(1, "ringsBy", 5, 0);
        p.due(0, "ringsBy", 5, 5);
        p.due(1, "like", 0, 5);
        p.due(1, "like", 10, 4);
    }

    private static void likeForEachSize() {
        // A ring of four beside one of five: SETS of three do not tell their NODES apart.
        Watched p = Watched.graph("like: for each SIZE", 9, 0, 1, 1, 2, 2, 3, 3, 0, 4, 5, 5, 6, 6, 7, 7, 8, 8, 4);
        for (int sort : Sorts.OF_THREE) {
            for (int degree = 0; degree <= 3; degree++) {
                p.due(p.ask("placed", 3, sort, degree, 0), "placed", 3, sort, degree, 4);
            }
        }
        p.due(0, "like", 0, 4);
        p.due(1, "like", 0, 3);
        p.due(1, "like", 4, 8);
        Watched three = Watched.graph("like: SETS of three where there are none of four", 3, 0, 1);
        three.due(1, "like", 0, 1);
        three.due(0, "like", 0, 2);
    }

    private static void likeWhateverTheColour() {
        Watched p = Watched.graph("like: the same placed(), in which no COLOUR counts", 4, 0, 1);
        p.due(1, "like", 2, 3);
        p.ask("colour", 2, 3);
        p.due(1, "like", 2, 3);
        p.due(1, "like", 0, 1);
        p.due(0, "like", 1, 2);
    }

    private static void closedOutside() {
        Watched p = Watched.complete("closed: what is above (part = 0), below (1). OUTSIDE", 5);
        p.due(1, "closed", 4, 0);
        p.due(1, "closed", 4, 1);
        for (int wrong : Wrong.PARTS) {
            p.due(OUTSIDE, "closed", 4, wrong);
            p.due(OUTSIDE, "closed", 5, wrong);
        }
    }

    private static void closedWithoutPairs() {
        Watched p = Watched.graph("closed: 0 and 1 without pairs", 14, 0, 13);
        for (int x : new int[] {0, 1, 13}) {
            p.due(0, "closed", x, 0);
            p.due(1, "closed", x, 1);
        }
        p.ask("edge", 13, 1);
        p.due(0, "closed", 13, 0);
        p.due(1, "closed", 13, 1);
        p.ask("edge", 0, 1);
        p.due(1, "closed", 13, 0);
        p.due(1, "closed", 13, 1);
        Watched one = Watched.graph("closed: of one NODE", 1);
        one.due(0, "closed", 0, 0);
        one.due(1, "closed", 0, 1);
    }

    /** From none of the 78 pairs that a NODE can have at the most to all of them. */
    private static void closedInLowestTerms() {
        Watched p = Watched.graph("closed: the share, in lowest terms", 14);
        for (int x = 0; x < 13; x++) {
            p.ask("edge", x, 13);
        }
        p.due(0, "closed", 13, 0);
        p.due(1, "closed", 13, 1);
        int joined = 0;
        for (int a = 0; a < 13; a++) {
            for (int b = 0; b < a; b++) {
                p.ask("edge", a, b);
                joined++;
                int common = 78;
                while (joined % common != 0 || 78 % common != 0) {
                    common--;
                }
                p.due(joined / common, "closed", 13, 0);
                p.due(78 / common, "closed", 13, 1);
            }
        }
        p.ask("edge", 0, 1);
        p.due(77, "closed", 13, 0);
        p.due(78, "closed", 13, 1);
        p.due(1, "closed", 0, 0);
        p.due(1, "closed", 0, 1);
    }

    // ---- Promises 21 to 23: rings, ringsBy, ways

    /** How often `size` NODES can be put one behind the other, if each is chosen among `from`. */
    private static int rows(int from, int size) {
        int rows = 1;
        for (int i = 0; i < size; i++) {
            rows *= Math.max(0, from - i);
        }
        return rows;
    }

    private static void rings() {
        for (int nodes = 0; nodes <= 14; nodes++) {
            Watched none = Watched.graph("rings: RINGS of l EDGES (3 to 6), without an EDGE", nodes);
            Watched all = Watched.complete("rings: RINGS of l EDGES (3 to 6), with every EDGE", nodes);
            for (int l = 3; l <= 6; l++) {
                none.due(0, "rings", l);
                all.due(rows(nodes, l) / (2 * l), "rings", l);
            }
            for (int wrong : Wrong.RING_LENGTHS) {
                none.due(OUTSIDE, "rings", wrong);
                all.due(OUTSIDE, "rings", wrong);
            }
        }
    }

    private static void ringsBy() {
        for (int nodes = 1; nodes <= 14; nodes++) {
            Watched none = Watched.graph("ringsBy: How many of them a NODE is in, without an EDGE", nodes);
            Watched all = Watched.complete("ringsBy: How many of them a NODE is in, with every EDGE", nodes);
            for (int x : new int[] {0, nodes / 2, nodes - 1}) {
                for (int l = 3; l <= 6; l++) {
                    none.due(0, "ringsBy", l, x);
                    all.due(rows(nodes - 1, l - 1) / 2, "ringsBy", l, x);
                }
                for (int wrong : Wrong.RING_LENGTHS) {
                    none.due(OUTSIDE, "ringsBy", wrong, x);
                    all.due(OUTSIDE, "ringsBy", wrong, x);
                }
            }
            all.due(UNKNOWN, "ringsBy", 3, nodes);
            all.due(UNKNOWN, "ringsBy", 6, -1);
        }
    }

    private static void ways() {
        for (int nodes = 2; nodes <= 14; nodes++) {
            Watched none = Watched.graph("ways: WAYS of l EDGES (1 to 5), without an EDGE", nodes);
            Watched all = Watched.complete("ways: WAYS of l EDGES (1 to 5), with every EDGE", nodes);
            for (int x = 0; x < nodes - 1; x++) {
                for (int l = 1; l <= 5; l++) {
                    none.due(0, "ways", l, x, nodes - 1);
                    all.due(rows(nodes - 2, l - 1), "ways", l, x, nodes - 1);
                    all.due(rows(nodes - 2, l - 1), "ways", l, nodes - 1, x);
                }
            }
            for (int wrong : Wrong.WAY_LENGTHS) {
                none.due(OUTSIDE, "ways", wrong, 0, 1);
                all.due(OUTSIDE, "ways", wrong, 0, nodes - 1);
            }
            all.due(UNKNOWN, "ways", 1, 0, nodes);
            all.due(UNKNOWN, "ways", 5, -1, 0);
        }
    }
}
