/** Each promise of the document by itself, with ordinary inputs; TermsTest and BoundariesTest have its bounds. */
public final class PromisesTest {
    private static final int NONE = -1;

    public static void main(String[] args) {
        newObject();
        node();
        clear();
        edge();
        colour();
        told();
        degree();
        both();
        count();
        placed();
        pair();
        coloured();
        mixed();
        change();
        after();
        nth();
        sort();
        rank();
        like();
        closed();
        rings();
        ringsBy();
        ways();
        Due.end();
    }

    private static void newObject() {
        Watched p = new Watched("promise 1: a new object");
        p.due(0, "told", 0);
        p.due(0, "told", 1);
        p.due(0, "count", 3, 0);
        p.due(0, "count", 4, 0);
        p.due(0, "rings", 3);
        p.due(0, "node", 0);
    }

    private static void node() {
        Watched p = new Watched("promise 2: node");
        for (int x = 0; x < 14; x++) {
            p.due(x, "node", x % 4);
            p.due(0, "degree", x);
        }
        Watched q = new Watched("promise 2: node");
        q.ask("node", 3);
        q.due(3, "colour", 0, 1);
    }

    private static void clear() {
        Watched p = Watched.graph("promise 3: clear", 5, 0, 1, 1, 2, 2, 0);
        p.due(5, "clear");
        p.due(0, "told", 0);
        p.due(0, "told", 1);
        p.due(0, "node", 2);
        p.due(0, "degree", 0);
        p.due(2, "colour", 0, 1);
    }

    private static void edge() {
        Watched p = Watched.graph("promise 4: edge", 3);
        p.due(1, "edge", 0, 1);
        p.due(1, "edge", 1, 2);
        p.due(0, "edge", 1, 0);
        p.due(0, "degree", 0);
        p.due(1, "degree", 1);
        p.due(1, "edge", 0, 1);
    }

    private static void colour() {
        Watched p = Watched.graph("promise 5: colour", 4);
        p.due(3, "colour", 3, 0);
        p.due(0, "colour", 3, 0);
        p.due(0, "colour", 3, 2);
        p.due(2, "colour", 3, 1);
        p.due(0, "colour", 0, 3);
        Watched q = Watched.graph("promise 5: colour", 3, 0, 1, 1, 2);
        q.ask("colour", 0, 3);
        q.due(1, "change", 3, 211);
    }

    private static void told() {
        Watched p = Watched.graph("promise 6: told", 5, 0, 1, 1, 2, 0, 1);
        p.due(5, "told", 0);
        p.due(1, "told", 1);
        Watched.complete("promise 6: told", 14).due(91, "told", 1);
        p.ask("after", 3, 110, 3, 4);
        p.due(1, "told", 1);
    }

    private static void degree() {
        Watched p = Watched.graph("promise 7: degree", 5, 0, 1, 0, 2, 0, 3);
        p.due(3, "degree", 0);
        p.due(1, "degree", 3);
        p.due(0, "degree", 4);
        Watched.complete("promise 7: degree", 14).due(13, "degree", 13);
    }

    private static void both() {
        Watched p = Watched.graph("promise 8: both", 5, 0, 2, 1, 2, 0, 3, 1, 3, 0, 1, 0, 4);
        p.due(2, "both", 0, 1);
        p.due(2, "both", 3, 2);
        p.due(1, "both", 4, 1);
        p.due(0, "both", 0, 4);
    }

    private static void count() {
        Watched p = Watched.graph("promise 9: count", 6, 0, 1, 1, 2, 2, 0, 2, 3, 3, 4);
        int[] threes = {5, 11, 3, 1};
        int[] fours = {0, 6, 1, 3, 2, 2, 0, 0, 1, 0, 0};
        for (int i = 0; i < threes.length; i++) {
            p.due(threes[i], "count", 3, Sorts.OF_THREE[i]);
        }
        for (int i = 0; i < fours.length; i++) {
            p.due(fours[i], "count", 4, Sorts.OF_FOUR[i]);
        }
        p.ask("node", 0);
        p.due(1, "count", 3, 222);
        p.due(3, "count", 4, 2220);
    }

    private static void placed() {
        Watched p = Watched.graph("promise 10: placed", 6, 0, 1, 0, 2, 0, 3, 1, 2);
        p.due(1, "placed", 4, 3221, 3, 0);
        p.due(0, "placed", 4, 3221, 2, 0);
        p.due(1, "placed", 4, 3221, 2, 1);
        p.due(1, "placed", 4, 3221, 1, 3);
        p.due(1, "placed", 4, 2220, 0, 4);
        p.due(2, "placed", 4, 2220, 2, 0);
        p.due(4, "placed", 3, 110, 0, 5);
        p.due(0, "placed", 3, 222, 3, 0);
        p.due(0, "placed", 3, 222, 2, 5);
        p.due(1 + 2 + 2, "placed", 3, 0, 0, 3);
    }

    private static void pair() {
        Watched p = Watched.graph("promise 11: pair", 5, 0, 1, 1, 2, 2, 3, 3, 0);
        p.due(1, "pair", 4, 2222, 0, 2);
        p.due(0, "pair", 4, 2222, 0, 4);
        p.due(2, "pair", 3, 211, 0, 1);
        p.due(2, "pair", 3, 110, 4, 1);
        p.due(3, "pair", 4, 2110, 1, 4);
        Watched.complete("promise 11: pair", 14).due(66, "pair", 4, 3333, 13, 0);
    }

    private static void coloured() {
        Watched p = Watched.graph("promise 12: coloured", 8);
        p.due(70, "coloured", 4, 0, 15);
        p.due(1, "coloured", 4, 0, 3);
        p.due(15, "coloured", 4, 0, 14);
        p.due(4, "coloured", 3, 0, 10);
        p.due(0, "coloured", 3, 0, 8);
        p.due(0, "coloured", 3, 0, 0);
        p.ask("edge", 0, 4);
        p.due(2, "coloured", 3, 110, 3);
        p.due(0, "coloured", 3, 110, 2);
        p.ask("colour", 1, 0);
        p.due(1, "coloured", 3, 110, 1);
    }

    private static void mixed() {
        Watched p = Watched.graph("promise 13: mixed", 8, 0, 1, 1, 4, 2, 3);
        Watched.graph("promise 13: mixed", 8).due(16, "mixed", 4, 0);
        Watched.graph("promise 13: mixed", 8).due(32, "mixed", 3, 0);
        p.due(0, "mixed", 3, 211);
        p.due(2, "mixed", 4, 1111);
        p.ask("colour", 4, 3);
        p.due(1, "mixed", 3, 211);
        p.due(1, "mixed", 4, 1111);
    }

    private static void change() {
        Watched p = Watched.graph("promise 14: change", 4);
        p.due(0, "change", 3, 0);
        p.ask("edge", 0, 1);
        p.due(-2, "change", 3, 0);
        p.due(2, "change", 3, 110);
        p.due(-1, "change", 4, 0);
        p.due(0, "change", 4, 2110);
        p.ask("colour", 0, 2);
        p.ask("after", 3, 0, 2, 3);
        p.due(-2, "change", 3, 0);
        p.ask("edge", 1, 0);
        p.due(2, "change", 3, 0);
        p.due(-1, "change", 4, 1100);
        p.ask("edge", 2, 3);
        p.due(-2, "change", 3, 0);
        p.ask("node", 0);
        p.due(0, "change", 3, 0);
        p.ask("edge", 2, 3);
        p.due(3, "change", 3, 0);
        p.ask("clear");
        p.due(0, "change", 3, 0);
    }

    private static void after() {
        Watched p = Watched.graph("promise 15: after", 5, 0, 1, 1, 2, 2, 3);
        p.due(1, "after", 4, 2222, 0, 3);
        p.due(-1, "after", 4, 2211, 3, 0);
        p.due(1, "after", 3, 222, 0, 2);
        p.due(-1, "after", 3, 211, 0, 1);
        p.due(-1, "after", 3, 110, 0, 1);
        p.due(0, "after", 3, 222, 0, 4);
        p.due(-1, "after", 4, 2110, 1, 4);
        p.ask("edge", 1, 4);
        p.due(-1, "change", 4, 2110);
    }

    private static void nth() {
        Watched p = Watched.graph("promise 16: nth", 5);
        int[][] order = {{0, 1, 2}, {0, 1, 3}, {0, 1, 4}, {0, 2, 3}, {0, 2, 4}, {0, 3, 4}, {1, 2, 3}, {1, 2, 4},
            {1, 3, 4}, {2, 3, 4}};
        for (int k = 0; k < order.length; k++) {
            for (int i = 0; i < 3; i++) {
                p.due(order[k][i], "nth", 3, 0, k, i);
            }
        }
        p.due(NONE, "nth", 3, 0, 10, 0);
        p.due(4, "nth", 4, 0, 4, 3);
        p.due(3, "nth", 4, 0, 0, 3);
        p.ask("edge", 1, 3);
        p.due(1, "nth", 3, 110, 1, 0);
        p.due(2, "nth", 3, 110, 1, 1);
        p.due(4, "nth", 3, 0, 1, 2);
        Watched.graph("promise 16: nth", 14).due(10, "nth", 4, 0, 1000, 0);
    }

    private static void sort() {
        Watched p = Watched.graph("promise 17: sort", 5, 0, 1, 0, 2, 0, 3, 1, 2);
        p.due(3221, "sort", 3, 1, 0, 2);
        p.due(222, "sort", 2, 1, 0, -1);
        p.due(211, "sort", 3, 1, 0, -1);
        p.due(0, "sort", 4, 3, 1, -1);
        p.due(1100, "sort", 4, 3, 1, 2);
        p.due(2220, "sort", 0, 1, 2, 4);
    }

    private static void rank() {
        Watched p = Watched.graph("promise 18: rank", 5, 1, 3);
        p.due(0, "rank", 0, 2, 1, -1);
        p.due(6, "rank", 4, 3, 2, -1);
        p.due(2, "rank", 1, 3, 4, -1);
        p.due(1, "rank", 0, 2, 3, 4);
        p.due(2, "rank", 4, 3, 2, 1);
        Watched.graph("promise 18: rank", 14).due(1000, "rank", 13, 12, 11, 10);
    }

    private static void like() {
        Watched p = Watched.graph("promise 19: like", 5, 0, 1, 1, 2, 2, 3);
        p.due(1, "like", 0, 3);
        p.due(1, "like", 1, 2);
        p.due(0, "like", 0, 1);
        p.due(0, "like", 0, 4);
        p.due(1, "like", 4, 4);
        Watched.graph("promise 19: like", 2, 0, 1).due(1, "like", 0, 1);
        // Two rings of three beside one of six: each node has the same degree, sets of three tell them apart.
        Watched q = Watched.graph("promise 19: like", 12, 0, 1, 1, 2, 2, 0, 3, 4, 4, 5, 5, 3, 6, 7, 7, 8, 8, 9, 9, 10,
                10, 11, 11, 6);
        q.due(1, "like", 0, 5);
        q.due(0, "like", 0, 6);
    }

    private static void closed() {
        Watched p = Watched.graph("promise 20: closed", 7, 0, 1, 0, 2, 0, 3, 0, 4, 1, 2, 2, 3, 5, 6);
        p.due(1, "closed", 0, 0);
        p.due(3, "closed", 0, 1);
        p.due(2, "closed", 2, 0);
        p.due(3, "closed", 2, 1);
        p.due(0, "closed", 4, 0);
        p.due(1, "closed", 4, 1);
        p.due(1, "closed", 1, 0);
        p.due(1, "closed", 1, 1);
        Watched star = Watched.graph("promise 20: closed", 5, 0, 1, 0, 2, 0, 3);
        star.due(0, "closed", 0, 0);
        star.due(1, "closed", 0, 1);
        star.due(0, "closed", 4, 0);
        star.due(1, "closed", 4, 1);
    }

    private static void rings() {
        int[] ofSix = {20, 45, 72, 60};
        for (int l = 3; l <= 6; l++) {
            Watched.complete("promise 21: rings", 6).due(ofSix[l - 3], "rings", l);
        }
        Watched p = Watched.graph("promise 21: rings", 7, 0, 1, 1, 2, 2, 3, 3, 4, 4, 5, 5, 0, 0, 3);
        p.due(0, "rings", 3);
        p.due(2, "rings", 4);
        p.due(0, "rings", 5);
        p.due(1, "rings", 6);
        Watched.complete("promise 21: rings", 14).due(180180, "rings", 6);
    }

    private static void ringsBy() {
        Watched p = Watched.graph("promise 22: ringsBy", 7, 0, 1, 1, 2, 2, 3, 3, 4, 4, 5, 5, 0, 0, 3);
        p.due(2, "ringsBy", 4, 0);
        p.due(1, "ringsBy", 4, 1);
        p.due(0, "ringsBy", 4, 6);
        p.due(1, "ringsBy", 6, 5);
        p.due(0, "ringsBy", 5, 5);
        int[] ofSix = {10, 30, 60, 60};
        for (int l = 3; l <= 6; l++) {
            Watched.complete("promise 22: ringsBy", 6).due(ofSix[l - 3], "ringsBy", l, 3);
        }
    }

    private static void ways() {
        int[] ofSix = {1, 4, 12, 24, 24};
        for (int l = 1; l <= 5; l++) {
            Watched.complete("promise 23: ways", 6).due(ofSix[l - 1], "ways", l, 5, 2);
        }
        Watched p = Watched.graph("promise 23: ways", 7, 0, 1, 1, 2, 2, 3, 3, 4, 4, 5, 5, 0, 0, 3);
        p.due(1, "ways", 1, 0, 3);
        p.due(0, "ways", 1, 0, 2);
        p.due(2, "ways", 2, 0, 2);
        p.due(2, "ways", 3, 0, 3);
        p.due(2, "ways", 3, 3, 0);
        p.due(3, "ways", 4, 1, 5);
        p.due(1, "ways", 5, 0, 1);
        p.due(0, "ways", 5, 0, 6);
    }
}
