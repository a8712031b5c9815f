import java.util.function.Supplier;

/** The boundaries that many calls share: each sentence ahead of the promises, with a test of its own. */
public final class TermsTest {
    private static final int NONE = -1, OUTSIDE = -2, UNKNOWN = -3, ROOM = -4;

    public static void main(String[] args) {
        constants();
        edgesForAllCalls();
        dearCallsForAllCalls();
        nodesAndClearsForAllCalls();
        refusalsForAllCalls();
        nodesFromZeroOn();
        nodesFourteenAtMost();
        coloursZeroToThree();
        edgesOfTwoDifferentNodes();
        edgesInNoDirection();
        sizesThreeAndFour();
        setsOfSoManyNodes();
        degreesWithinTheSet();
        sortsOfThree();
        sortsOfFour();
        noOtherSorts();
        noOtherSortsInAnyCall();
        orderOfThrees();
        orderOfFours();
        ringsOfDifferentNodes();
        ringsBeginNowhere();
        waysOfDifferentNodes();
        waysToAnotherNode();
        outsideAheadOfUnknown();
        outsideAheadOfRoom();
        outsideAheadOfNone();
        unknownNodes();
        nodesToldTwice();
        refusedCallsChangeNothing();
        questionsChangeNothing();
        Due.end();
    }

    private static void constants() {
        String sentence = "NONE = -1, OUTSIDE = -2, UNKNOWN = -3, ROOM = -4";
        Due.is(sentence, "NONE", SmallPieces.NONE, NONE);
        Due.is(sentence, "OUTSIDE", SmallPieces.OUTSIDE, OUTSIDE);
        Due.is(sentence, "UNKNOWN", SmallPieces.UNKNOWN, UNKNOWN);
        Due.is(sentence, "ROOM", SmallPieces.ROOM, ROOM);
    }

    private static void edgesForAllCalls() {
        Watched p = Watched.graph("at most 512 calls, of edge()", 14);
        for (int i = 0; p.calls() < Watched.MOST_CALLS - 2; i++) {
            p.due(i / 13 % 2 == 0 ? 1 : 0, "edge", i % 13, 13);
        }
        p.due(2, "told", 1);
        p.due(22, "count", 3, 110);
    }

    private static void dearCallsForAllCalls() {
        Watched p = Watched.complete("at most 512 calls, of dear ones", 14);
        while (p.calls() < Watched.MOST_CALLS - 5) {
            p.due(180180, "rings", 6);
            p.due(77220, "ringsBy", 6, 0);
            p.due(11880, "ways", 5, 0, 13);
            p.due(1, "like", 0, 13);
            p.due(-66, "after", 4, 3333, 12, 13);
        }
        p.due(0, "edge", 12, 13);
        p.due(-66, "change", 4, 3333);
    }

    private static void nodesAndClearsForAllCalls() {
        Watched p = new Watched("at most 512 calls, of node() and clear()");
        for (int i = 0; i < 34; i++) {
            for (int x = 0; x < 14; x++) {
                p.due(x, "node", i % 4);
            }
            p.due(14, "clear");
        }
        p.due(0, "told", 0);
        p.due(0, "node", 3);
    }

    private static void refusalsForAllCalls() {
        Watched p = Watched.graph("at most 512 calls, refused ones too", 3, 0, 1);
        while (p.calls() < Watched.MOST_CALLS - 3) {
            p.due(OUTSIDE, "node", 4);
            p.due(UNKNOWN, "edge", 0, 3);
        }
        p.due(-1, "change", 3, 0);
        p.due(3, "node", 0);
    }

    private static void nodesFromZeroOn() {
        Watched p = new Watched("NODES have numbers from 0 on");
        p.keeps(UNKNOWN, "degree", 0);
        for (int x = 0; x < 14; x++) {
            p.due(x, "node", 0);
            p.due(0, "degree", x);
            p.due(UNKNOWN, "degree", x + 1);
            p.due(UNKNOWN, "degree", -1);
        }
        p.ask("clear");
        p.due(0, "node", 0);
        p.due(1, "node", 0);
    }

    private static void nodesFourteenAtMost() {
        Watched p = Watched.graph("14 at most", 13, 0, 12);
        p.due(13, "node", 0);
        p.due(1, "edge", 12, 13);
        for (int colour = 0; colour < 4; colour++) {
            p.keeps(ROOM, "node", colour);
        }
        p.due(14, "told", 0);
        p.due(1, "degree", 13);
        p.due(UNKNOWN, "degree", 14);
        p.due(UNKNOWN, "edge", 13, 14);
    }

    private static void coloursZeroToThree() {
        String sentence = "each a COLOUR, 0 to 3";
        Watched p = new Watched(sentence);
        for (int c = 0; c < 4; c++) {
            p.due(c, "node", c);
            p.due(c, "colour", c, 3 - c);
            p.due(3 - c, "colour", c, c);
        }
        for (int wrong : Wrong.COLOURS) {
            new Watched(sentence).keeps(OUTSIDE, "node", wrong);
            p.keeps(OUTSIDE, "node", wrong);
            p.keeps(OUTSIDE, "colour", 0, wrong);
            p.keeps(OUTSIDE, "colour", 3, wrong);
        }
    }

    private static void edgesOfTwoDifferentNodes() {
        Watched p = Watched.graph("An EDGE joins two different NODES", 14, 0, 1, 12, 13);
        for (int x = 0; x < 14; x++) {
            p.keeps(UNKNOWN, "edge", x, x);
            p.due(UNKNOWN, "after", 3, 0, x, x);
            p.due(x < 2 || x > 11 ? 1 : 0, "degree", x);
        }
        p.due(2, "told", 1);
    }

    private static void edgesInNoDirection() {
        Watched p = Watched.graph("in no direction", 14);
        for (int a = 0; a < 14; a += 13) {
            int b = 13 - a;
            p.due(1, "edge", a, b);
            p.due(1, "ways", 1, a, b);
            p.due(1, "ways", 1, b, a);
            p.due(1, "degree", a);
            p.due(1, "degree", b);
            p.due(0, "edge", b, a);
            p.due(0, "ways", 1, a, b);
            p.due(0, "ways", 1, b, a);
        }
    }

    private static void sizesThreeAndFour() {
        Watched p = Watched.graph("SETS are of SIZE 3 or 4", 6);
        p.due(20, "count", 3, 0);
        p.due(15, "count", 4, 0);
        p.ask("edge", 4, 5);
        for (int size : Wrong.SIZES) {
            outsideInEveryCall(p, size, 0);
        }
    }

    private static void outsideInEveryCall(Watched p, int size, int sort) {
        p.due(OUTSIDE, "count", size, sort);
        p.due(OUTSIDE, "placed", size, sort, 0, 0);
        p.due(OUTSIDE, "pair", size, sort, 0, 1);
        p.due(OUTSIDE, "coloured", size, sort, 15);
        p.due(OUTSIDE, "mixed", size, sort);
        p.due(OUTSIDE, "change", size, sort);
        p.due(OUTSIDE, "after", size, sort, 0, 1);
        p.due(OUTSIDE, "nth", size, sort, 0, 0);
    }

    private static void setsOfSoManyNodes() {
        int[] ofThree = {0, 0, 0, 1, 4, 10, 20, 35, 56, 84, 120, 165, 220, 286, 364};
        int[] ofFour = {0, 0, 0, 0, 1, 5, 15, 35, 70, 126, 210, 330, 495, 715, 1001};
        Watched p = new Watched("so many different NODES");
        for (int nodes = 0; nodes <= 14; nodes++) {
            p.due(ofThree[nodes], "count", 3, 0);
            p.due(ofFour[nodes], "count", 4, 0);
            Watched all = Watched.complete("so many different NODES, each two joined", nodes);
            all.due(ofThree[nodes], "count", 3, 222);
            all.due(ofFour[nodes], "count", 4, 3333);
            all.due(0, "count", 3, 0);
            all.due(0, "count", 4, 0);
            p.ask("node", nodes % 4);
        }
    }

    private static void degreesWithinTheSet() {
        Watched p = Watched.graph("with how many others of it an EDGE joins it", 14);
        for (int x = 0; x < 13; x++) {
            p.ask("edge", x, 13);
        }
        p.due(211, "sort", 13, 0, 12, -1);
        p.due(3111, "sort", 0, 1, 2, 13);
        p.due(0, "sort", 0, 1, 12, -1);
        p.due(0, "sort", 0, 1, 11, 12);
        p.due(78, "placed", 3, 211, 2, 13);
        p.due(12, "placed", 3, 211, 1, 0);
        p.due(286, "placed", 4, 3111, 3, 13);
        p.due(66, "placed", 4, 3111, 1, 12);
        p.due(220, "placed", 4, 0, 0, 12);
    }

    private static void sortsOfThree() {
        int[][] graphs = {{}, {0, 1}, {0, 2}, {1, 2}, {0, 1, 0, 2}, {0, 1, 1, 2}, {0, 2, 1, 2}, {0, 1, 0, 2, 1, 2}};
        int[] sorts = {0, 110, 110, 110, 211, 211, 211, 222};
        for (int i = 0; i < graphs.length; i++) {
            Watched p = Watched.graph("with SIZE 3 this is 0, 110, 211 or 222", 3, graphs[i]);
            p.due(sorts[i], "sort", 2, 0, 1, -1);
            for (int sort : Sorts.OF_THREE) {
                p.due(sort == sorts[i] ? 1 : 0, "count", 3, sort);
            }
        }
    }

    private static void sortsOfFour() {
        int[][] graphs = {{}, {0, 3}, {0, 3, 1, 2}, {0, 3, 3, 1}, {0, 2, 2, 1, 1, 3}, {1, 2, 2, 3, 3, 1},
            {0, 2, 2, 1, 1, 3, 3, 0}, {3, 0, 3, 1, 3, 2}, {2, 0, 2, 1, 2, 3, 0, 1}, {0, 1, 1, 2, 2, 3, 3, 0, 1, 3},
            {0, 1, 1, 2, 2, 3, 3, 0, 0, 2, 1, 3}};
        for (int i = 0; i < graphs.length; i++) {
            Watched p = Watched.graph("with SIZE 4 0, 1100, .. or 3333", 4, graphs[i]);
            p.due(Sorts.OF_FOUR[i], "sort", 3, 0, 2, 1);
            for (int sort : Sorts.OF_FOUR) {
                p.due(sort == Sorts.OF_FOUR[i] ? 1 : 0, "count", 4, sort);
            }
        }
    }

    /** Every number up to beyond the greatest SORT. */
    private static void noOtherSorts() {
        for (int size = 3; size <= 4; size++) {
            Supplier<Watched> fresh = () -> Watched.graph("the SORTS of a SIZE and no other number", 4);
            Watched p = fresh.get();
            for (int number = -112; number < 3700; number++) {
                p = withRoomFor(1, p, fresh);
                if (!Sorts.has(size, number)) {
                    p.due(OUTSIDE, "count", size, number);
                }
            }
        }
    }

    private static void noOtherSortsInAnyCall() {
        for (int size = 3; size <= 4; size++) {
            for (int sort : Wrong.sorts(size)) {
                outsideInEveryCall(Watched.graph("the SORTS of a SIZE in every call", 6, 4, 5), size, sort);
            }
        }
    }

    private static Watched withRoomFor(int calls, Watched used, Supplier<Watched> fresh) {
        return used.calls() + calls > Watched.MOST_CALLS ? fresh.get() : used;
    }

    private static void orderOfThrees() {
        String sentence = "SETS are in order by their least NODE, then by the next greater one, and so on (SIZE 3)";
        Supplier<Watched> fresh = () -> Watched.graph(sentence, 14);
        Watched p = fresh.get();
        int k = 0;
        for (int a = 0; a < 14; a++) {
            for (int b = a + 1; b < 14; b++) {
                for (int c = b + 1; c < 14; c++) {
                    p = withRoomFor(4, p, fresh);
                    p.due(a, "nth", 3, 0, k, 0);
                    p.due(b, "nth", 3, 0, k, 1);
                    p.due(c, "nth", 3, 0, k, 2);
                    p.due(k, "rank", c, a, b, -1);
                    k++;
                }
            }
        }
    }

    private static void orderOfFours() {
        String sentence = "SETS are in order by their least NODE, then by the next greater one, and so on (SIZE 4)";
        Supplier<Watched> fresh = () -> Watched.complete(sentence, 14);
        Watched p = fresh.get();
        int k = 0;
        for (int a = 0; a < 14; a++) {
            for (int b = a + 1; b < 14; b++) {
                for (int c = b + 1; c < 14; c++) {
                    for (int d = c + 1; d < 14; d++) {
                        p = withRoomFor(5, p, fresh);
                        p.due(a, "nth", 4, 3333, k, 0);
                        p.due(b, "nth", 4, 3333, k, 1);
                        p.due(c, "nth", 4, 3333, k, 2);
                        p.due(d, "nth", 4, 3333, k, 3);
                        p.due(k, "rank", c, a, d, b);
                        k++;
                    }
                }
            }
        }
    }

    private static void ringsOfDifferentNodes() {
        Watched p = Watched.graph("A RING of l EDGES: l different NODES", 5, 0, 1, 1, 2, 2, 0, 2, 3, 3, 4, 4, 2);
        p.due(2, "rings", 3);
        p.due(2, "ringsBy", 3, 2);
        for (int l = 4; l <= 6; l++) {
            p.due(0, "rings", l);
            p.due(0, "ringsBy", l, 2);
        }
        Watched edge = Watched.graph("A RING of l EDGES: l different NODES", 2, 0, 1);
        for (int l = 3; l <= 6; l++) {
            edge.due(0, "rings", l);
            edge.due(0, "ringsBy", l, 0);
        }
    }

    private static void ringsBeginNowhere() {
        for (int nodes = 3; nodes <= 7; nodes++) {
            Watched p = Watched.graph("where it begins, and in which direction, is nothing", nodes, 0, nodes - 1);
            p.due(0, "rings", 3);
            for (int x = 1; x < nodes; x++) {
                p.ask("edge", x - 1, x);
            }
            for (int l = 3; l <= 6; l++) {
                p.due(l == nodes ? 1 : 0, "rings", l);
                p.due(l == nodes ? 1 : 0, "ringsBy", l, 0);
                p.due(l == nodes ? 1 : 0, "ringsBy", l, nodes - 1);
            }
        }
    }

    private static void waysOfDifferentNodes() {
        String sentence = "A WAY of l EDGES: l + 1 different NODES, one behind the other";
        Watched edge = Watched.graph(sentence, 4, 1, 2);
        Watched ring = Watched.graph(sentence, 4, 0, 1, 1, 2, 2, 0);
        Watched tail = Watched.graph(sentence, 4, 0, 1, 1, 2, 2, 0, 2, 3);
        for (int l = 1; l <= 5; l++) {
            edge.due(l == 1 ? 1 : 0, "ways", l, 1, 2);
            edge.due(0, "ways", l, 0, 3);
            ring.due(l <= 2 ? 1 : 0, "ways", l, 0, 1);
            tail.due(l == 2 || l == 3 ? 1 : 0, "ways", l, 3, 0);
            tail.due(l == 1 ? 1 : 0, "ways", l, 3, 2);
        }
        for (int nodes = 2; nodes <= 7; nodes++) {
            Watched line = Watched.graph(sentence, nodes);
            for (int x = 1; x < nodes; x++) {
                line.ask("edge", x, x - 1);
            }
            for (int l = 1; l <= 5; l++) {
                line.due(l == nodes - 1 ? 1 : 0, "ways", l, 0, nodes - 1);
                line.due(l == nodes - 1 ? 1 : 0, "ways", l, nodes - 1, 0);
            }
        }
    }

    private static void waysToAnotherNode() {
        Watched p = Watched.complete("A WAY of l EDGES from a NODE to another one", 6);
        for (int l = 1; l <= 5; l++) {
            p.due(UNKNOWN, "ways", l, 0, 0);
            p.due(UNKNOWN, "ways", l, 5, 5);
        }
    }

    private static void outsideAheadOfUnknown() {
        int[][] nodes = {{0, 0}, {0, 5}, {5, 0}, {-1, -1}, {14, 32}, {Wrong.LEAST, Wrong.MOST}};
        for (int[] of : nodes) {
            outsideWhateverTheNodes(new Watched("the first of these that fits: OUTSIDE, UNKNOWN"), of[0], of[1]);
            outsideWhateverTheNodes(Watched.graph("the first of these that fits: OUTSIDE, UNKNOWN", 5, 0, 1), of[0],
                    of[1]);
        }
    }

    private static void outsideWhateverTheNodes(Watched p, int a, int b) {
        for (int wrong : new int[] {-1, 4, Wrong.LEAST, Wrong.MOST}) {
            p.keeps(OUTSIDE, "colour", a, wrong);
            p.due(OUTSIDE, "placed", 3, 0, wrong, a);
            p.due(OUTSIDE, "placed", 4, 3333, wrong, b);
        }
        for (int wrong : new int[] {2, 5, Wrong.LEAST, Wrong.MOST}) {
            p.due(OUTSIDE, "placed", wrong, 0, 0, a);
            p.due(OUTSIDE, "pair", wrong, 0, a, b);
            p.due(OUTSIDE, "after", wrong, 0, a, b);
        }
        for (int wrong : new int[] {-1, 1, 1101, Wrong.LEAST, Wrong.MOST}) {
            p.due(OUTSIDE, "placed", 3, wrong, 0, a);
            p.due(OUTSIDE, "pair", 4, wrong, a, b);
            p.due(OUTSIDE, "after", 3, wrong, a, b);
        }
        for (int wrong : new int[] {-1, 2, Wrong.LEAST, Wrong.MOST}) {
            p.due(OUTSIDE, "closed", a, wrong);
            p.due(OUTSIDE, "ringsBy", wrong, a);
        }
        for (int wrong : new int[] {0, 6, Wrong.LEAST, Wrong.MOST}) {
            p.due(OUTSIDE, "ways", wrong, a, b);
        }
        p.due(OUTSIDE, "ringsBy", 7, b);
    }

    private static void outsideAheadOfRoom() {
        Watched p = Watched.graph("the first of these that fits: OUTSIDE, ROOM", 14, 0, 13);
        for (int wrong : Wrong.COLOURS) {
            p.keeps(OUTSIDE, "node", wrong);
        }
        p.keeps(ROOM, "node", 0);
        p.keeps(ROOM, "node", 3);
    }

    private static void outsideAheadOfNone() {
        for (int nodes = 0; nodes <= 14; nodes += 7) {
            for (int place : new int[] {-1, 0, 1001, Wrong.LEAST, Wrong.MOST}) {
                Watched p = Watched.graph("nth: NONE only of a SIZE and SORT that there are", nodes);
                p.due(OUTSIDE, "nth", 2, 0, place, 0);
                p.due(OUTSIDE, "nth", 5, 0, place, place);
                p.due(OUTSIDE, "nth", 3, 1100, 0, place);
                p.due(OUTSIDE, "nth", 4, 110, place, -1);
                p.due(NONE, "nth", 3, 222, place, place);
            }
        }
    }

    private static void unknownNodes() {
        for (int nodes : new int[] {0, 1, 2, 5, 13, 14}) {
            unknownInEveryCall(nodes, nodes);
            unknownInEveryCall(nodes, nodes + 1);
            for (int x : Wrong.NODES) {
                unknownInEveryCall(nodes, x);
            }
        }
    }

    private static void unknownInEveryCall(int nodes, int x) {
        String sentence = "UNKNOWN (a NODE that there is not), of " + nodes;
        Watched p = nodes < 2 ? Watched.graph(sentence, nodes) : Watched.graph(sentence, nodes, 0, 1);
        p.keeps(UNKNOWN, "edge", x, 0);
        p.keeps(UNKNOWN, "edge", 0, x);
        p.keeps(UNKNOWN, "colour", x, 1);
        p.due(UNKNOWN, "degree", x);
        p.due(UNKNOWN, "both", x, 0);
        p.due(UNKNOWN, "both", 0, x);
        p.due(UNKNOWN, "placed", 3, 0, 0, x);
        p.due(UNKNOWN, "placed", 4, 3333, 3, x);
        p.due(UNKNOWN, "pair", 3, 110, 0, x);
        p.due(UNKNOWN, "pair", 4, 0, x, 0);
        p.due(UNKNOWN, "after", 4, 1100, 0, x);
        p.due(UNKNOWN, "after", 3, 0, x, 0);
        p.due(UNKNOWN, "like", 0, x);
        p.due(UNKNOWN, "like", x, 0);
        p.due(UNKNOWN, "like", x, x);
        p.due(UNKNOWN, "closed", x, 0);
        p.due(UNKNOWN, "closed", x, 1);
        p.due(UNKNOWN, "ringsBy", 3, x);
        p.due(UNKNOWN, "ringsBy", 6, x);
        p.due(UNKNOWN, "ways", 1, 0, x);
        p.due(UNKNOWN, "ways", 5, x, 0);
        for (String name : new String[] {"sort", "rank"}) {
            p.due(UNKNOWN, name, x, 0, 1, -1);
            p.due(UNKNOWN, name, 0, x, 1, -1);
            p.due(UNKNOWN, name, 0, 1, x, -1);
            p.due(UNKNOWN, name, x, 0, 1, 2);
            p.due(UNKNOWN, name, 0, x, 1, 2);
            p.due(UNKNOWN, name, 0, 1, x, 2);
            if (x != -1) {
                p.due(UNKNOWN, name, 0, 1, 2, x);
            }
        }
    }

    private static void nodesToldTwice() {
        int[][] twice = {{0, 0, 1, -1}, {0, 1, 0, -1}, {1, 0, 0, -1}, {0, 0, 0, -1}, {0, 0, 1, 2}, {0, 1, 0, 2},
            {0, 1, 2, 0}, {1, 0, 0, 2}, {1, 0, 2, 0}, {1, 2, 0, 0}, {0, 0, 0, 0}, {0, 0, 1, 1}, {0, 1, 1, 0}};
        for (int top : new int[] {3, 4, 13}) {
            Watched p = Watched.graph("UNKNOWN (a NODE told twice)", top + 1, 0, 1, 1, top, 0, top, 2, 3, 3, 0);
            for (int x = 0; x <= top; x += top) {
                p.keeps(UNKNOWN, "edge", x, x);
                p.due(UNKNOWN, "both", x, x);
                p.due(UNKNOWN, "pair", 3, 222, x, x);
                p.due(UNKNOWN, "pair", 4, 3333, x, x);
                p.due(UNKNOWN, "after", 3, 222, x, x);
                p.due(UNKNOWN, "after", 4, 3333, x, x);
                p.due(UNKNOWN, "ways", 1, x, x);
                p.due(UNKNOWN, "ways", 3, x, x);
                for (int[] set : twice) {
                    // Each of the told-twice ones once with the least NODE and once with the greatest.
                    int a = set[0] == 0 ? x : set[0];
                    int b = set[1] == 0 ? x : set[1];
                    int c = set[2] == 0 ? x : set[2];
                    int d = set[3] == 0 ? x : set[3];
                    p.due(UNKNOWN, "sort", a, b, c, d);
                    p.due(UNKNOWN, "rank", a, b, c, d);
                }
            }
        }
    }

    private static void refusedCallsChangeNothing() {
        String sentence = "then nothing changes";
        Watched full = Watched.complete(sentence, 14);
        full.ask("edge", 5, 6);
        full.keeps(ROOM, "node", 0);
        Watched some = Watched.graph(sentence, 6, 0, 1, 1, 2, 2, 0, 4, 5);
        Watched[] objects = {new Watched(sentence), some, full};
        for (Watched p : objects) {
            p.keeps(OUTSIDE, "node", -1);
            p.keeps(OUTSIDE, "node", 4);
            p.keeps(UNKNOWN, "edge", 0, 0);
            p.keeps(UNKNOWN, "edge", 5, 14);
            p.keeps(UNKNOWN, "edge", -1, 5);
            p.keeps(OUTSIDE, "colour", 0, -1);
            p.keeps(OUTSIDE, "colour", 0, 4);
            p.keeps(UNKNOWN, "colour", 14, 0);
            p.keeps(UNKNOWN, "colour", -1, 3);
            p.keeps(OUTSIDE, "told", 2);
            p.keeps(UNKNOWN, "degree", 14);
            p.keeps(UNKNOWN, "both", 0, 14);
            p.keeps(OUTSIDE, "count", 5, 0);
            p.keeps(UNKNOWN, "placed", 3, 0, 0, 14);
            p.keeps(UNKNOWN, "pair", 3, 0, 0, 0);
            p.keeps(OUTSIDE, "coloured", 3, 0, 16);
            p.keeps(OUTSIDE, "mixed", 3, 1);
            p.keeps(OUTSIDE, "change", 4, 1);
            p.keeps(UNKNOWN, "after", 3, 0, 0, 0);
            p.keeps(UNKNOWN, "after", 4, 0, 0, 14);
            p.keeps(NONE, "nth", 4, 2211, 0, 0);
            p.keeps(UNKNOWN, "sort", 0, 1, 1, -1);
            p.keeps(UNKNOWN, "rank", 0, 1, 2, 14);
            p.keeps(UNKNOWN, "like", 14, 14);
            p.keeps(UNKNOWN, "closed", 14, 0);
            p.keeps(OUTSIDE, "rings", 7);
            p.keeps(UNKNOWN, "ringsBy", 6, 14);
            p.keeps(UNKNOWN, "ways", 5, 0, 0);
        }
    }

    private static void questionsChangeNothing() {
        Watched p = Watched.graph("calls that only ask change nothing", 5, 0, 1, 1, 2, 2, 3, 3, 0);
        p.keeps(5, "told", 0);
        p.keeps(4, "told", 1);
        p.keeps(2, "degree", 0);
        p.keeps(2, "both", 0, 2);
        p.keeps(1, "count", 4, 2222);
        p.keeps(1, "placed", 4, 2222, 2, 0);
        p.keeps(1, "pair", 4, 2222, 0, 1);
        p.keeps(1, "coloured", 4, 2222, 15);
        p.keeps(1, "mixed", 4, 2222);
        p.keeps(1, "change", 4, 2222);
        p.keeps(1, "after", 4, 3322, 0, 2);
        p.keeps(-1, "after", 4, 2222, 0, 1);
        p.keeps(3, "nth", 4, 2222, 0, 3);
        p.keeps(2222, "sort", 0, 1, 2, 3);
        p.keeps(0, "rank", 0, 1, 2, 3);
        p.keeps(1, "like", 0, 1);
        p.keeps(0, "closed", 0, 0);
        p.keeps(1, "closed", 0, 1);
        p.keeps(1, "rings", 4);
        p.keeps(1, "ringsBy", 4, 0);
        p.keeps(2, "ways", 2, 0, 2);
    }
}
