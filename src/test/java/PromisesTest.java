/** Each promise of the document by itself: ordinary inputs, its edges and wrong inputs. */
public final class PromisesTest {
    private static final int NONE = -1, OUTSIDE = -2, UNKNOWN = -3, ROOM = -4;
    private static final int LEAST = Integer.MIN_VALUE, MOST = Integer.MAX_VALUE;
    private static final int[] SORTS_OF_THREE = {0, 110, 211, 222};
    private static final int[] SORTS_OF_FOUR = {0, 1100, 1111, 2110, 2211, 2220, 2222, 3111, 3221, 3322, 3333};
    private static int wrong = 0;

    public static void main(String[] args) {
        newObject();
        node();
        clear();
        edge();
        colour();
        told();
        degree();
        both();
        count();
        placed();
        pair();
        coloured();
        mixed();
        change();
        after();
        nth();
        sort();
        rank();
        like();
        closed();
        rings();
        ringsBy();
        ways();
        wrongSizesAndSorts();
        longUse();
        System.out.println(wrong == 0 ? "all promises hold" : wrong + " answers are not as due");
        if (wrong != 0) {
            System.exit(1);
        }
    }

    private static void due(int promise, String what, int got, int want) {
        if (got != want) {
            wrong++;
            System.out.println("promise " + promise + ": " + what + " answered " + got + ", due is " + want);
        }
    }

    private static SmallPieces graph(int nodes, int... ends) {
        SmallPieces p = new SmallPieces();
        for (int x = 0; x < nodes; x++) {
            p.node(x % 4);
        }
        for (int i = 0; i < ends.length; i += 2) {
            p.edge(ends[i], ends[i + 1]);
        }
        return p;
    }

    private static SmallPieces complete(int nodes) {
        SmallPieces p = graph(nodes);
        for (int a = 0; a < nodes; a++) {
            for (int b = 0; b < a; b++) {
                p.edge(a, b);
            }
        }
        return p;
    }

    /** All that the calls tell of an object, so that a call that must change nothing can be seen to do so. */
    private static String all(SmallPieces p) {
        StringBuilder text = new StringBuilder();
        text.append(p.told(0)).append(' ').append(p.told(1));
        for (int x = 0; x < p.told(0); x++) {
            text.append('\n');
            for (int y = 0; y < p.told(0); y++) {
                text.append(p.ways(1, x, y)).append(' ');
            }
        }
        for (int size = 3; size <= 4; size++) {
            for (int sort : size == 3 ? SORTS_OF_THREE : SORTS_OF_FOUR) {
                text.append('\n').append(p.count(size, sort)).append(' ').append(p.change(size, sort));
                for (int colours = 0; colours < 16; colours++) {
                    text.append(' ').append(p.coloured(size, sort, colours));
                }
            }
        }
        return text.toString();
    }

    private static void unchanged(int promise, String what, SmallPieces p, String before) {
        due(promise, what + " left all as it was", all(p).equals(before) ? 1 : 0, 1);
    }

    private static void newObject() {
        SmallPieces p = new SmallPieces();
        due(1, "told(0)", p.told(0), 0);
        due(1, "told(1)", p.told(1), 0);
        due(1, "degree(0)", p.degree(0), UNKNOWN);
        due(1, "count(3, 0)", p.count(3, 0), 0);
        due(1, "count(4, 0)", p.count(4, 0), 0);
        due(1, "change(3, 0)", p.change(3, 0), 0);
        due(1, "rings(3)", p.rings(3), 0);
        SmallPieces other = graph(3, 0, 1);
        due(1, "an object beside another", new SmallPieces().told(0), 0);
        due(1, "the other one", other.told(1), 1);
    }

    private static void node() {
        SmallPieces p = new SmallPieces();
        for (int x = 0; x < 14; x++) {
            due(2, "node", p.node(x % 4), x);
            due(2, "degree of a new node", p.degree(x), 0);
        }
        String before = all(p);
        due(2, "node(0) of a full object", p.node(0), ROOM);
        due(2, "node(4) of a full object", p.node(4), OUTSIDE);
        due(2, "node(-1)", p.node(-1), OUTSIDE);
        due(2, "node(most)", p.node(MOST), OUTSIDE);
        due(2, "node(least)", p.node(LEAST), OUTSIDE);
        unchanged(2, "node", p, before);
        SmallPieces q = new SmallPieces();
        q.node(3);
        due(2, "the colour of a new node", q.colour(0, 1), 3);
    }

    private static void clear() {
        due(3, "clear() of a new object", new SmallPieces().clear(), 0);
        SmallPieces p = complete(14);
        due(3, "clear()", p.clear(), 14);
        due(3, "clear() twice", p.clear(), 0);
        unchanged(3, "clear()", p, all(new SmallPieces()));
        due(3, "edge(0, 1)", p.edge(0, 1), UNKNOWN);
        for (int x = 0; x < 14; x++) {
            due(3, "node", p.node(x % 4), x);
        }
        unchanged(3, "nodes after clear()", p, all(graph(14)));
        due(3, "mixed(4, 0)", p.mixed(4, 0), 4 * 4 * 3 * 3);
    }

    private static void edge() {
        SmallPieces p = graph(3);
        due(4, "edge(0, 1)", p.edge(0, 1), 1);
        due(4, "edge(1, 2)", p.edge(1, 2), 1);
        due(4, "edge(1, 0)", p.edge(1, 0), 0);
        due(4, "degree(0)", p.degree(0), 0);
        due(4, "degree(1)", p.degree(1), 1);
        due(4, "edge(0, 1) again", p.edge(0, 1), 1);
        String before = all(p);
        due(4, "edge(0, 0)", p.edge(0, 0), UNKNOWN);
        due(4, "edge(0, 3)", p.edge(0, 3), UNKNOWN);
        due(4, "edge(-1, 0)", p.edge(-1, 0), UNKNOWN);
        due(4, "edge(0, 32)", p.edge(0, 32), UNKNOWN);
        due(4, "edge(least, most)", p.edge(LEAST, MOST), UNKNOWN);
        unchanged(4, "edge", p, before);
    }

    private static void colour() {
        SmallPieces p = graph(4);
        due(5, "colour(3, 0)", p.colour(3, 0), 3);
        due(5, "colour(3, 0) again", p.colour(3, 0), 0);
        due(5, "colour(3, 2)", p.colour(3, 2), 0);
        due(5, "colour(3, 1)", p.colour(3, 1), 2);
        due(5, "colour(0, 3)", p.colour(0, 3), 0);
        String before = all(p);
        due(5, "colour(0, 4)", p.colour(0, 4), OUTSIDE);
        due(5, "colour(0, -1)", p.colour(0, -1), OUTSIDE);
        due(5, "colour(4, 4)", p.colour(4, 4), OUTSIDE);
        due(5, "colour(4, 0)", p.colour(4, 0), UNKNOWN);
        due(5, "colour(-1, 0)", p.colour(-1, 0), UNKNOWN);
        unchanged(5, "colour", p, before);
        SmallPieces q = graph(3, 0, 1, 1, 2);
        q.colour(0, 3);
        due(5, "change(3, 211) behind colour()", q.change(3, 211), 1);
    }

    private static void told() {
        SmallPieces p = graph(5, 0, 1, 1, 2, 0, 1);
        due(6, "told(0)", p.told(0), 5);
        due(6, "told(1)", p.told(1), 1);
        due(6, "told(1) of all edges", complete(14).told(1), 91);
        due(6, "told(2)", p.told(2), OUTSIDE);
        due(6, "told(-1)", p.told(-1), OUTSIDE);
        p.after(3, 110, 3, 4);
        due(6, "told(1) behind after()", p.told(1), 1);
    }

    private static void degree() {
        SmallPieces p = graph(5, 0, 1, 0, 2, 0, 3);
        due(7, "degree(0)", p.degree(0), 3);
        due(7, "degree(3)", p.degree(3), 1);
        due(7, "degree(4)", p.degree(4), 0);
        due(7, "degree(13) of all edges", complete(14).degree(13), 13);
        due(7, "degree(5)", p.degree(5), UNKNOWN);
        due(7, "degree(-1)", p.degree(-1), UNKNOWN);
        due(7, "degree(most)", p.degree(MOST), UNKNOWN);
    }

    private static void both() {
        SmallPieces p = graph(5, 0, 2, 1, 2, 0, 3, 1, 3, 0, 1, 0, 4);
        due(8, "both(0, 1)", p.both(0, 1), 2);
        due(8, "both(3, 2)", p.both(3, 2), 2);
        due(8, "both(4, 1)", p.both(4, 1), 1);
        due(8, "both(0, 4)", p.both(0, 4), 0);
        due(8, "both(1, 1)", p.both(1, 1), UNKNOWN);
        due(8, "both(1, 5)", p.both(1, 5), UNKNOWN);
        due(8, "both(-1, 1)", p.both(-1, 1), UNKNOWN);
    }

    private static void count() {
        int[][] threes = {{}, {0, 1}, {0, 1, 1, 2}, {0, 1, 1, 2, 2, 0}};
        for (int i = 0; i < 4; i++) {
            for (int j = 0; j < 4; j++) {
                due(9, "count(3, " + SORTS_OF_THREE[j] + ")", graph(3, threes[i]).count(3, SORTS_OF_THREE[j]),
                        i == j ? 1 : 0);
            }
        }
        int[][] fours = {{}, {0, 1}, {0, 1, 2, 3}, {0, 1, 1, 2}, {0, 1, 1, 2, 2, 3}, {0, 1, 1, 2, 2, 0},
            {0, 1, 1, 2, 2, 3, 3, 0}, {0, 1, 0, 2, 0, 3}, {0, 1, 0, 2, 0, 3, 1, 2}, {0, 1, 1, 2, 2, 3, 3, 0, 0, 2},
            {0, 1, 1, 2, 2, 3, 3, 0, 0, 2, 1, 3}};
        for (int i = 0; i < 11; i++) {
            for (int j = 0; j < 11; j++) {
                due(9, "count(4, " + SORTS_OF_FOUR[j] + ")", graph(4, fours[i]).count(4, SORTS_OF_FOUR[j]),
                        i == j ? 1 : 0);
            }
        }
        due(9, "count(3, 0) of two nodes", graph(2).count(3, 0), 0);
        due(9, "count(3, 110) of two nodes", graph(2, 0, 1).count(3, 110), 0);
        due(9, "count(4, 0) of 14 nodes", graph(14).count(4, 0), 1001);
        due(9, "count(3, 0) of 14 nodes", graph(14).count(3, 0), 364);
        SmallPieces p = graph(3, 0, 1);
        p.node(0);
        due(9, "count(3, 110) with a node more", p.count(3, 110), 2);
        due(9, "count(4, 1100) with a node more", p.count(4, 1100), 1);
        due(9, "count(3, 0) with a node more", p.count(3, 0), 2);
    }

    private static void placed() {
        SmallPieces p = graph(6, 0, 1, 0, 2, 0, 3, 1, 2);
        due(10, "placed(4, 3221, 3, 0)", p.placed(4, 3221, 3, 0), 1);
        due(10, "placed(4, 3221, 2, 0)", p.placed(4, 3221, 2, 0), 0);
        due(10, "placed(4, 3221, 2, 1)", p.placed(4, 3221, 2, 1), 1);
        due(10, "placed(4, 3221, 1, 3)", p.placed(4, 3221, 1, 3), 1);
        due(10, "placed(4, 2220, 0, 4)", p.placed(4, 2220, 0, 4), 1);
        due(10, "placed(4, 2220, 2, 0)", p.placed(4, 2220, 2, 0), 2);
        due(10, "placed(3, 110, 0, 5)", p.placed(3, 110, 0, 5), 4);
        due(10, "placed(3, 222, 3, 0)", p.placed(3, 222, 3, 0), 0);
        due(10, "placed(3, 222, 2, 5)", p.placed(3, 222, 2, 5), 0);
        due(10, "placed(3, 0, 0, 3)", p.placed(3, 0, 0, 3), 1 + 2 + 2);
        due(10, "placed(3, 222, 4, 0)", p.placed(3, 222, 4, 0), OUTSIDE);
        due(10, "placed(3, 222, -1, 0)", p.placed(3, 222, -1, 0), OUTSIDE);
        due(10, "placed(3, 222, 4, 6)", p.placed(3, 222, 4, 6), OUTSIDE);
        due(10, "placed(3, 222, 2, 6)", p.placed(3, 222, 2, 6), UNKNOWN);
        due(10, "placed(3, 222, 2, -1)", p.placed(3, 222, 2, -1), UNKNOWN);
    }

    private static void pair() {
        SmallPieces p = graph(5, 0, 1, 1, 2, 2, 3, 3, 0);
        due(11, "pair(4, 2222, 0, 2)", p.pair(4, 2222, 0, 2), 1);
        due(11, "pair(4, 2222, 0, 4)", p.pair(4, 2222, 0, 4), 0);
        due(11, "pair(3, 211, 0, 1)", p.pair(3, 211, 0, 1), 2);
        due(11, "pair(3, 110, 4, 1)", p.pair(3, 110, 4, 1), 2);
        due(11, "pair(4, 2110, 1, 4)", p.pair(4, 2110, 1, 4), 3);
        due(11, "pair(4, 3333, 13, 0) of all edges", complete(14).pair(4, 3333, 13, 0), 66);
        due(11, "pair(3, 211, 1, 1)", p.pair(3, 211, 1, 1), UNKNOWN);
        due(11, "pair(3, 211, 1, 5)", p.pair(3, 211, 1, 5), UNKNOWN);
        due(11, "pair(3, 211, -1, 1)", p.pair(3, 211, -1, 1), UNKNOWN);
        due(11, "pair(3, 212, 1, 1)", p.pair(3, 212, 1, 1), OUTSIDE);
    }

    private static void coloured() {
        SmallPieces p = graph(8);
        due(12, "coloured(4, 0, 15)", p.coloured(4, 0, 15), 70);
        due(12, "coloured(4, 0, 3)", p.coloured(4, 0, 3), 1);
        due(12, "coloured(4, 0, 14)", p.coloured(4, 0, 14), 15);
        due(12, "coloured(3, 0, 10)", p.coloured(3, 0, 10), 4);
        due(12, "coloured(3, 0, 8)", p.coloured(3, 0, 8), 0);
        due(12, "coloured(3, 0, 0)", p.coloured(3, 0, 0), 0);
        p.edge(0, 4);
        due(12, "coloured(3, 110, 3)", p.coloured(3, 110, 3), 2);
        due(12, "coloured(3, 110, 2)", p.coloured(3, 110, 2), 0);
        p.colour(1, 0);
        due(12, "coloured(3, 110, 1)", p.coloured(3, 110, 1), 1);
        due(12, "coloured(3, 0, 16)", p.coloured(3, 0, 16), OUTSIDE);
        due(12, "coloured(3, 0, -1)", p.coloured(3, 0, -1), OUTSIDE);
        due(12, "coloured(3, 0, least)", p.coloured(3, 0, LEAST), OUTSIDE);
    }

    private static void mixed() {
        SmallPieces p = graph(8, 0, 1, 1, 4, 2, 3);
        due(13, "mixed(4, 0)", graph(8).mixed(4, 0), 16);
        due(13, "mixed(3, 0)", graph(8).mixed(3, 0), 32);
        due(13, "mixed(3, 211)", p.mixed(3, 211), 0);
        due(13, "mixed(4, 1111)", p.mixed(4, 1111), 2);
        p.colour(4, 3);
        due(13, "mixed(3, 211) in another colour", p.mixed(3, 211), 1);
        due(13, "mixed(4, 1111) in another colour", p.mixed(4, 1111), 1);
    }

    private static void change() {
        SmallPieces p = graph(4);
        due(14, "change(3, 0) without an edge()", p.change(3, 0), 0);
        p.edge(0, 1);
        due(14, "change(3, 0)", p.change(3, 0), -2);
        due(14, "change(3, 110)", p.change(3, 110), 2);
        due(14, "change(4, 0)", p.change(4, 0), -1);
        due(14, "change(4, 2110)", p.change(4, 2110), 0);
        p.edge(0, 0);
        p.edge(0, 4);
        p.node(4);
        p.colour(0, 2);
        p.after(3, 0, 2, 3);
        due(14, "change(3, 0) behind calls that change no edge", p.change(3, 0), -2);
        p.edge(1, 0);
        due(14, "change(3, 0) of an edge gone", p.change(3, 0), 2);
        due(14, "change(4, 1100) of an edge gone", p.change(4, 1100), -1);
        p.edge(2, 3);
        due(14, "change(3, 0) of the latest alone", p.change(3, 0), -2);
        p.node(0);
        due(14, "change(3, 0) behind node()", p.change(3, 0), 0);
        p.edge(2, 3);
        due(14, "change(3, 0) of five nodes", p.change(3, 0), 3);
        p.clear();
        due(14, "change(3, 0) behind clear()", p.change(3, 0), 0);
        SmallPieces full = complete(14);
        full.edge(5, 6);
        due(14, "node(0) of a full object", full.node(0), ROOM);
        due(14, "change(4, 3333) behind ROOM", full.change(4, 3333), -66);
    }

    private static void after() {
        SmallPieces p = graph(5, 0, 1, 1, 2, 2, 3);
        String before = all(p);
        due(15, "after(4, 2222, 0, 3)", p.after(4, 2222, 0, 3), 1);
        due(15, "after(4, 2211, 3, 0)", p.after(4, 2211, 3, 0), -1);
        due(15, "after(3, 222, 0, 2)", p.after(3, 222, 0, 2), 1);
        due(15, "after(3, 211, 0, 1)", p.after(3, 211, 0, 1), -1);
        due(15, "after(3, 110, 0, 1)", p.after(3, 110, 0, 1), -1);
        due(15, "after(3, 222, 0, 4)", p.after(3, 222, 0, 4), 0);
        due(15, "after(3, 222, 0, 0)", p.after(3, 222, 0, 0), UNKNOWN);
        due(15, "after(3, 222, 0, 5)", p.after(3, 222, 0, 5), UNKNOWN);
        due(15, "after(3, 222, -1, 0)", p.after(3, 222, -1, 0), UNKNOWN);
        due(15, "after(3, 223, 0, 0)", p.after(3, 223, 0, 0), OUTSIDE);
        unchanged(15, "after", p, before);
        for (int sort : SORTS_OF_FOUR) {
            int said = p.after(4, sort, 1, 4);
            p.edge(1, 4);
            due(15, "after(4, " + sort + ", 1, 4) ahead of the edge()", said, p.change(4, sort));
        }
    }

    private static void nth() {
        SmallPieces p = graph(5);
        int[][] order = {{0, 1, 2}, {0, 1, 3}, {0, 1, 4}, {0, 2, 3}, {0, 2, 4}, {0, 3, 4}, {1, 2, 3}, {1, 2, 4},
            {1, 3, 4}, {2, 3, 4}};
        for (int k = 0; k < order.length; k++) {
            for (int i = 0; i < 3; i++) {
                due(16, "nth(3, 0, " + k + ", " + i + ")", p.nth(3, 0, k, i), order[k][i]);
            }
        }
        due(16, "nth(3, 0, 10, 0)", p.nth(3, 0, 10, 0), NONE);
        due(16, "nth(3, 0, -1, 0)", p.nth(3, 0, -1, 0), NONE);
        due(16, "nth(3, 0, 0, 3)", p.nth(3, 0, 0, 3), NONE);
        due(16, "nth(3, 0, 0, -1)", p.nth(3, 0, 0, -1), NONE);
        due(16, "nth(3, 0, most, least)", p.nth(3, 0, MOST, LEAST), NONE);
        due(16, "nth(4, 0, 4, 3)", p.nth(4, 0, 4, 3), 4);
        due(16, "nth(4, 0, 0, 3)", p.nth(4, 0, 0, 3), 3);
        due(16, "nth(4, 0, 0, 4)", p.nth(4, 0, 0, 4), NONE);
        due(16, "nth(3, 222, 0, 0)", p.nth(3, 222, 0, 0), NONE);
        p.edge(1, 3);
        due(16, "nth(3, 110, 1, 0)", p.nth(3, 110, 1, 0), 1);
        due(16, "nth(3, 110, 1, 1)", p.nth(3, 110, 1, 1), 2);
        due(16, "nth(3, 0, 1, 2)", p.nth(3, 0, 1, 2), 4);
        due(16, "nth(4, 0, 1000, 0) of 14 nodes", graph(14).nth(4, 0, 1000, 0), 10);
    }

    private static void sort() {
        SmallPieces p = graph(5, 0, 1, 0, 2, 0, 3, 1, 2);
        due(17, "sort(3, 1, 0, 2)", p.sort(3, 1, 0, 2), 3221);
        due(17, "sort(2, 1, 0, -1)", p.sort(2, 1, 0, -1), 222);
        due(17, "sort(3, 1, 0, -1)", p.sort(3, 1, 0, -1), 211);
        due(17, "sort(4, 3, 1, -1)", p.sort(4, 3, 1, -1), 0);
        due(17, "sort(4, 3, 1, 2)", p.sort(4, 3, 1, 2), 1100);
        due(17, "sort(0, 1, 2, 4)", p.sort(0, 1, 2, 4), 2220);
        due(17, "sort(0, 1, 1, 2)", p.sort(0, 1, 1, 2), UNKNOWN);
        due(17, "sort(0, 1, 2, 0)", p.sort(0, 1, 2, 0), UNKNOWN);
        due(17, "sort(0, 1, 0, -1)", p.sort(0, 1, 0, -1), UNKNOWN);
        due(17, "sort(0, 1, -1, -1)", p.sort(0, 1, -1, -1), UNKNOWN);
        due(17, "sort(0, 1, -1, 2)", p.sort(0, 1, -1, 2), UNKNOWN);
        due(17, "sort(0, 1, 2, -2)", p.sort(0, 1, 2, -2), UNKNOWN);
        due(17, "sort(0, 1, 2, 5)", p.sort(0, 1, 2, 5), UNKNOWN);
        due(17, "sort(5, 1, 2, -1)", p.sort(5, 1, 2, -1), UNKNOWN);
    }

    private static void rank() {
        SmallPieces p = graph(5, 1, 3);
        due(18, "rank(0, 2, 1, -1)", p.rank(0, 2, 1, -1), 0);
        due(18, "rank(4, 3, 2, -1)", p.rank(4, 3, 2, -1), 6);
        due(18, "rank(1, 3, 4, -1)", p.rank(1, 3, 4, -1), 2);
        due(18, "rank(0, 2, 3, 4)", p.rank(0, 2, 3, 4), 1);
        due(18, "rank(4, 3, 2, 1)", p.rank(4, 3, 2, 1), 2);
        due(18, "rank(13, 12, 11, 10) of 14 nodes", graph(14).rank(13, 12, 11, 10), 1000);
        due(18, "rank(0, 1, 1, -1)", p.rank(0, 1, 1, -1), UNKNOWN);
        due(18, "rank(0, 1, 2, 2)", p.rank(0, 1, 2, 2), UNKNOWN);
        due(18, "rank(0, 1, 5, -1)", p.rank(0, 1, 5, -1), UNKNOWN);
        due(18, "rank(0, 1, 2, -2)", p.rank(0, 1, 2, -2), UNKNOWN);
        due(18, "rank(-1, 1, 2, -1)", p.rank(-1, 1, 2, -1), UNKNOWN);
        for (int k = 0; k < p.count(4, 1100); k++) {
            due(18, "rank of the k-th", p.rank(p.nth(4, 1100, k, 3), p.nth(4, 1100, k, 1), p.nth(4, 1100, k, 0),
                    p.nth(4, 1100, k, 2)), k);
        }
    }

    private static void like() {
        SmallPieces p = graph(5, 0, 1, 1, 2, 2, 3);
        due(19, "like(0, 3)", p.like(0, 3), 1);
        due(19, "like(1, 2)", p.like(1, 2), 1);
        due(19, "like(0, 1)", p.like(0, 1), 0);
        due(19, "like(0, 4)", p.like(0, 4), 0);
        due(19, "like(4, 4)", p.like(4, 4), 1);
        due(19, "like(5, 5)", p.like(5, 5), UNKNOWN);
        due(19, "like(0, 5)", p.like(0, 5), UNKNOWN);
        due(19, "like(-1, 0)", p.like(-1, 0), UNKNOWN);
        due(19, "like(0, 1) of two nodes", graph(2, 0, 1).like(0, 1), 1);
        // Two rings of three beside one of six: each node has the same degree, sets of three tell them apart.
        SmallPieces q = graph(12, 0, 1, 1, 2, 2, 0, 3, 4, 4, 5, 5, 3, 6, 7, 7, 8, 8, 9, 9, 10, 10, 11, 11, 6);
        due(19, "like(0, 5)", q.like(0, 5), 1);
        due(19, "like(0, 6)", q.like(0, 6), 0);
        // A ring of four beside one of five: only sets of four tell them apart.
        SmallPieces r = graph(9, 0, 1, 1, 2, 2, 3, 3, 0, 4, 5, 5, 6, 6, 7, 7, 8, 8, 4);
        for (int sort : SORTS_OF_THREE) {
            for (int degree = 0; degree < 4; degree++) {
                due(19, "placed(3, ..)", r.placed(3, sort, degree, 0), r.placed(3, sort, degree, 4));
            }
        }
        due(19, "like(0, 4)", r.like(0, 4), 0);
        due(19, "like(4, 8)", r.like(4, 8), 1);
        r.colour(4, 3);
        due(19, "like(4, 8) in other colours", r.like(4, 8), 1);
    }

    private static void closed() {
        SmallPieces p = graph(7, 0, 1, 0, 2, 0, 3, 0, 4, 1, 2, 2, 3, 5, 6);
        due(20, "closed(0, 0)", p.closed(0, 0), 1);
        due(20, "closed(0, 1)", p.closed(0, 1), 3);
        due(20, "closed(2, 0)", p.closed(2, 0), 2);
        due(20, "closed(2, 1)", p.closed(2, 1), 3);
        due(20, "closed(4, 0)", p.closed(4, 0), 0);
        due(20, "closed(4, 1)", p.closed(4, 1), 1);
        due(20, "closed(1, 0)", p.closed(1, 0), 1);
        due(20, "closed(1, 1)", p.closed(1, 1), 1);
        SmallPieces star = graph(5, 0, 1, 0, 2, 0, 3);
        due(20, "closed(0, 0) of a star", star.closed(0, 0), 0);
        due(20, "closed(0, 1) of a star", star.closed(0, 1), 1);
        due(20, "closed(4, 0) alone", star.closed(4, 0), 0);
        due(20, "closed(4, 1) alone", star.closed(4, 1), 1);
        due(20, "closed(0, 2)", p.closed(0, 2), OUTSIDE);
        due(20, "closed(0, -1)", p.closed(0, -1), OUTSIDE);
        due(20, "closed(7, 2)", p.closed(7, 2), OUTSIDE);
        due(20, "closed(7, 0)", p.closed(7, 0), UNKNOWN);
        due(20, "closed(-1, 1)", p.closed(-1, 1), UNKNOWN);
    }

    private static void rings() {
        int[] ofSix = {20, 45, 72, 60};
        for (int l = 3; l <= 6; l++) {
            due(21, "rings(" + l + ") of six nodes", complete(6).rings(l), ofSix[l - 3]);
        }
        SmallPieces p = graph(7, 0, 1, 1, 2, 2, 3, 3, 4, 4, 5, 5, 0, 0, 3);
        due(21, "rings(3)", p.rings(3), 0);
        due(21, "rings(4)", p.rings(4), 2);
        due(21, "rings(5)", p.rings(5), 0);
        due(21, "rings(6)", p.rings(6), 1);
        due(21, "rings(6) of 14 nodes", complete(14).rings(6), 180180);
        due(21, "rings(2)", p.rings(2), OUTSIDE);
        due(21, "rings(7)", p.rings(7), OUTSIDE);
        due(21, "rings(least)", p.rings(LEAST), OUTSIDE);
    }

    private static void ringsBy() {
        SmallPieces p = graph(7, 0, 1, 1, 2, 2, 3, 3, 4, 4, 5, 5, 0, 0, 3);
        due(22, "ringsBy(4, 0)", p.ringsBy(4, 0), 2);
        due(22, "ringsBy(4, 1)", p.ringsBy(4, 1), 1);
        due(22, "ringsBy(4, 6)", p.ringsBy(4, 6), 0);
        due(22, "ringsBy(6, 5)", p.ringsBy(6, 5), 1);
        due(22, "ringsBy(5, 5)", p.ringsBy(5, 5), 0);
        int[] ofSix = {10, 30, 60, 60};
        for (int l = 3; l <= 6; l++) {
            due(22, "ringsBy(" + l + ", 3) of six nodes", complete(6).ringsBy(l, 3), ofSix[l - 3]);
        }
        due(22, "ringsBy(2, 0)", p.ringsBy(2, 0), OUTSIDE);
        due(22, "ringsBy(7, 7)", p.ringsBy(7, 7), OUTSIDE);
        due(22, "ringsBy(3, 7)", p.ringsBy(3, 7), UNKNOWN);
        due(22, "ringsBy(3, -1)", p.ringsBy(3, -1), UNKNOWN);
    }

    private static void ways() {
        int[] ofSix = {1, 4, 12, 24, 24};
        for (int l = 1; l <= 5; l++) {
            due(23, "ways(" + l + ", 5, 2) of six nodes", complete(6).ways(l, 5, 2), ofSix[l - 1]);
        }
        SmallPieces p = graph(7, 0, 1, 1, 2, 2, 3, 3, 4, 4, 5, 5, 0, 0, 3);
        due(23, "ways(1, 0, 3)", p.ways(1, 0, 3), 1);
        due(23, "ways(1, 0, 2)", p.ways(1, 0, 2), 0);
        due(23, "ways(2, 0, 2)", p.ways(2, 0, 2), 2);
        due(23, "ways(3, 0, 3)", p.ways(3, 0, 3), 2);
        due(23, "ways(3, 3, 0)", p.ways(3, 3, 0), 2);
        due(23, "ways(4, 1, 5)", p.ways(4, 1, 5), 3);
        due(23, "ways(5, 0, 1)", p.ways(5, 0, 1), 1);
        due(23, "ways(5, 0, 6)", p.ways(5, 0, 6), 0);
        due(23, "ways(0, 0, 1)", p.ways(0, 0, 1), OUTSIDE);
        due(23, "ways(6, 0, 0)", p.ways(6, 0, 0), OUTSIDE);
        due(23, "ways(-1, 0, 1)", p.ways(-1, 0, 1), OUTSIDE);
        due(23, "ways(2, 1, 1)", p.ways(2, 1, 1), UNKNOWN);
        due(23, "ways(2, 1, 7)", p.ways(2, 1, 7), UNKNOWN);
        due(23, "ways(2, -1, 1)", p.ways(2, -1, 1), UNKNOWN);
    }

    /** OUTSIDE comes ahead of UNKNOWN and of NONE. */
    private static void wrongSizesAndSorts() {
        SmallPieces p = graph(4, 0, 1);
        int[][] none = {{2, 0}, {5, 0}, {0, 0}, {LEAST, 0}, {MOST, 110}, {3, 1100}, {3, 111}, {3, 11}, {3, -1},
            {3, 3333}, {4, 110}, {4, 222}, {4, 1}, {4, 2200}, {4, 3331}, {4, MOST}, {4, -1111}};
        for (int[] of : none) {
            String told = "(" + of[0] + ", " + of[1] + ", ..)";
            due(9, "count" + told, p.count(of[0], of[1]), OUTSIDE);
            due(10, "placed" + told, p.placed(of[0], of[1], 0, 9), OUTSIDE);
            due(11, "pair" + told, p.pair(of[0], of[1], 9, 9), OUTSIDE);
            due(12, "coloured" + told, p.coloured(of[0], of[1], 15), OUTSIDE);
            due(13, "mixed" + told, p.mixed(of[0], of[1]), OUTSIDE);
            due(14, "change" + told, p.change(of[0], of[1]), OUTSIDE);
            due(14, "change" + told + " of no edge", new SmallPieces().change(of[0], of[1]), OUTSIDE);
            due(15, "after" + told, p.after(of[0], of[1], 9, 9), OUTSIDE);
            due(16, "nth" + told, p.nth(of[0], of[1], -1, -1), OUTSIDE);
        }
    }

    /** An object holds for 512 calls. */
    private static void longUse() {
        SmallPieces p = graph(14);
        for (int i = 0; i < 496; i++) {
            due(4, "edge, time after time", p.edge(i % 13, 13), i / 13 % 2 == 0 ? 1 : 0);
        }
        due(9, "count(4, 3111) after 510 calls", p.count(4, 3111), 0);
        due(6, "told(1) after 511 calls", p.told(1), 2);
    }
}
