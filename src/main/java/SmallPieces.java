import java.util.Arrays;

/** The small pieces of a graph that changes edge by edge; ../shared/DOC.md says what each call promises. */
public final class SmallPieces {
    public static final int NONE = -1, OUTSIDE = -2, UNKNOWN = -3, ROOM = -4;

    private static final int MOST_NODES = 14;
    private static final int COLOURS = 4;
    private static final int GREATEST_DEGREE = 3;
    private static final int SETS_OF_THREE = MOST_NODES * (MOST_NODES - 1) * (MOST_NODES - 2) / 6;
    private static final int SETS_OF_FOUR = SETS_OF_THREE * (MOST_NODES - 3) / 4;
    private static final int[] SORTS_OF_THREE = {0, 110, 211, 222};
    private static final int[] SORTS_OF_FOUR = {0, 1100, 1111, 2110, 2211, 2220, 2222, 3111, 3221, 3322, 3333};

    private final Graph graph;
    private final Sets threes;
    private final Sets fours;
    // The ends of the latest edge() are enough for change(): undoing it in thought gives the counts ahead of it.
    private int latestA;
    private int latestB;

    public SmallPieces() {
        graph = new Graph();
        threes = new Sets(graph, 3, SETS_OF_THREE, SORTS_OF_THREE);
        fours = new Sets(graph, 4, SETS_OF_FOUR, SORTS_OF_FOUR);
        latestA = NONE;
        latestB = NONE;
    }

    public int node(int colour) {
        if (!isColour(colour)) {
            return OUTSIDE;
        }
        if (graph.isFull()) {
            return ROOM;
        }
        forgetLatest();
        return graph.add(colour);
    }

    public int clear() {
        forgetLatest();
        threes.forgetEdges();
        fours.forgetEdges();
        return graph.empty();
    }

    public int edge(int a, int b) {
        int ends = graph.twoOf(a, b);
        if (ends == 0) {
            return UNKNOWN;
        }
        graph.toggle(a, b);
        threes.sortAgain(ends);
        fours.sortAgain(ends);
        latestA = a;
        latestB = b;
        return graph.joins(a, b) ? 1 : 0;
    }

    public int colour(int x, int c) {
        if (!isColour(c)) {
            return OUTSIDE;
        }
        return graph.knows(x) ? graph.paint(x, c) : UNKNOWN;
    }

    public int told(int what) {
        switch (what) {
            case 0:
                return graph.nodes;
            case 1:
                return graph.edges;
            default:
                return OUTSIDE;
        }
    }

    public int degree(int x) {
        return graph.knows(x) ? Integer.bitCount(graph.near(x)) : UNKNOWN;
    }

    public int both(int a, int b) {
        return graph.twoOf(a, b) == 0 ? UNKNOWN : Integer.bitCount(graph.near(a) & graph.near(b));
    }

    // ---- sets

    public int count(int size, int sort) {
        Sets sets = setsWith(size, sort);
        return sets == null ? OUTSIDE : sets.tally(sort, 0, graph.all());
    }

    public int placed(int size, int sort, int degree, int x) {
        Sets sets = setsWith(size, sort);
        if (sets == null || degree < 0 || degree > GREATEST_DEGREE) {
            return OUTSIDE;
        }
        return graph.knows(x) ? sets.tallyPlaced(sort, degree, x) : UNKNOWN;
    }

    public int pair(int size, int sort, int a, int b) {
        Sets sets = setsWith(size, sort);
        if (sets == null) {
            return OUTSIDE;
        }
        int two = graph.twoOf(a, b);
        return two == 0 ? UNKNOWN : sets.tally(sort, two, graph.all());
    }

    public int coloured(int size, int sort, int colours) {
        Sets sets = setsWith(size, sort);
        if (sets == null || colours < 0 || colours >= 1 << COLOURS) {
            return OUTSIDE;
        }
        return sets.tally(sort, 0, graph.ofColours(colours));
    }

    public int mixed(int size, int sort) {
        Sets sets = setsWith(size, sort);
        return sets == null ? OUTSIDE : sets.tallyMixed(sort);
    }

    public int change(int size, int sort) {
        Sets sets = setsWith(size, sort);
        if (sets == null) {
            return OUTSIDE;
        }
        return latestA == NONE ? 0 : -sets.gain(sort, latestA, latestB);
    }

    public int after(int size, int sort, int a, int b) {
        Sets sets = setsWith(size, sort);
        if (sets == null) {
            return OUTSIDE;
        }
        return graph.twoOf(a, b) == 0 ? UNKNOWN : sets.gain(sort, a, b);
    }

    public int nth(int size, int sort, int k, int i) {
        Sets sets = setsWith(size, sort);
        return sets == null ? OUTSIDE : nodeAt(sets.setAt(sort, k), i);
    }

    public int sort(int a, int b, int c, int d) {
        int set = setOf(a, b, c, d);
        return set == 0 ? UNKNOWN : graph.sortOf(set);
    }

    public int rank(int a, int b, int c, int d) {
        int set = setOf(a, b, c, d);
        if (set == 0) {
            return UNKNOWN;
        }
        return d == -1 ? threes.ahead(set) : fours.ahead(set);
    }

    public int like(int x, int y) {
        if (!graph.knows(x) || !graph.knows(y)) {
            return UNKNOWN;
        }
        return threes.placeAlike(x, y) && fours.placeAlike(x, y) ? 1 : 0;
    }

    public int closed(int x, int part) {
        if (part != 0 && part != 1) {
            return OUTSIDE;
        }
        if (!graph.knows(x)) {
            return UNKNOWN;
        }
        int near = graph.near(x);
        int pairs = Integer.bitCount(near) * (Integer.bitCount(near) - 1) / 2;
        if (pairs == 0) {
            return part == 0 ? 0 : 1;
        }
        int joined = graph.edgesIn(near);
        return part == 0 ? reduced(joined, pairs) : reduced(pairs, joined);
    }

    // ---- rings and ways

    public int rings(int l) {
        if (!isRingLength(l)) {
            return OUTSIDE;
        }
        int rings = 0;
        int free = graph.all();
        for (int x = 0; x < graph.nodes; x++) {
            // Only greater NODES are left free, so that each RING is met at its least one alone.
            free &= ~(1 << x);
            rings += Routes.ringsThrough(graph, l, x, free);
        }
        return rings;
    }

    public int ringsBy(int l, int x) {
        if (!isRingLength(l)) {
            return OUTSIDE;
        }
        if (!graph.knows(x)) {
            return UNKNOWN;
        }
        return Routes.ringsThrough(graph, l, x, graph.all() & ~(1 << x));
    }

    public int ways(int l, int a, int b) {
        if (l < 1 || l > 5) {
            return OUTSIDE;
        }
        int ends = graph.twoOf(a, b);
        return ends == 0 ? UNKNOWN : Routes.waysBetween(graph, l, a, b, graph.all() & ~ends);
    }

    private void forgetLatest() {
        latestA = NONE;
        latestB = NONE;
    }

    /** The SETS of a SIZE; null if there is no such SIZE or it has no such SORT. */
    private Sets setsWith(int size, int sort) {
        if (size != 3 && size != 4) {
            return null;
        }
        Sets sets = size == 3 ? threes : fours;
        return sets.placeOfSort(sort) == NONE ? null : sets;
    }

    /** The SET of these NODES (d = -1: of three); 0 if one of them is unknown or told twice. */
    private int setOf(int a, int b, int c, int d) {
        int three = graph.bit(a) | graph.bit(b) | graph.bit(c);
        int set = d == -1 ? three : three | graph.bit(d);
        return Integer.bitCount(set) == (d == -1 ? 3 : 4) ? set : 0;
    }

    private static boolean isColour(int c) {
        return c >= 0 && c < COLOURS;
    }

    private static boolean isRingLength(int l) {
        return l >= 3 && l <= 6;
    }

    private static boolean holds(int set, int x) {
        return (set >> x & 1) == 1;
    }

    private static int nodeAt(int set, int i) {
        int seen = 0;
        for (int x = 0; x < MOST_NODES; x++) {
            if (holds(set, x)) {
                if (seen == i) {
                    return x;
                }
                seen++;
            }
        }
        return NONE;
    }

    /** One part of a share in lowest terms. */
    private static int reduced(int part, int other) {
        for (int divisor = part; divisor > 1; divisor--) {
            if (part % divisor == 0 && other % divisor == 0) {
                return part / divisor;
            }
        }
        return part;
    }

    /** NODES, COLOURS and EDGES. Any set of NODES is a number here: bit x stands for NODE x. */
    private static final class Graph {
        private final int[] joined;
        private final int[] painted;
        private int nodes;
        private int edges;

        Graph() {
            joined = new int[MOST_NODES];
            painted = new int[COLOURS];
        }

        boolean isFull() {
            return nodes >= MOST_NODES;
        }

        int add(int c) {
            int x = nodes;
            nodes++;
            paint(x, c);
            return x;
        }

        int empty() {
            int had = nodes;
            nodes = 0;
            edges = 0;
            Arrays.fill(joined, 0);
            Arrays.fill(painted, 0);
            return had;
        }

        boolean knows(int x) {
            return x >= 0 && x < nodes;
        }

        int all() {
            return (1 << nodes) - 1;
        }

        /** The set of this NODE alone; 0 if it is unknown. */
        int bit(int x) {
            return knows(x) ? 1 << x : 0;
        }

        /** The set of two NODES; 0 if one of them is unknown or both are the same. */
        int twoOf(int a, int b) {
            int two = bit(a) | bit(b);
            return Integer.bitCount(two) == 2 ? two : 0;
        }

        /** The NODES that EDGES join to one. */
        int near(int x) {
            return knows(x) ? joined[x] : 0;
        }

        boolean joins(int a, int b) {
            return (near(a) & bit(b)) != 0;
        }

        void toggle(int a, int b) {
            if (twoOf(a, b) == 0) {
                return;
            }
            edges += joins(a, b) ? -1 : 1;
            joined[a] ^= 1 << b;
            joined[b] ^= 1 << a;
        }

        /** Answers the COLOUR that the NODE had; NONE if it is a new one. */
        int paint(int x, int c) {
            int had = NONE;
            for (int i = 0; i < COLOURS; i++) {
                if (holds(painted[i], x)) {
                    had = i;
                }
                painted[i] = i == c ? painted[i] | bit(x) : painted[i] & ~bit(x);
            }
            return had;
        }

        int ofColours(int colours) {
            int set = 0;
            for (int c = 0; c < COLOURS; c++) {
                if (holds(colours, c)) {
                    set |= painted[c];
                }
            }
            return set;
        }

        boolean coloursDiffer(int set) {
            for (int c = 0; c < COLOURS; c++) {
                if (Integer.bitCount(set & painted[c]) > 1) {
                    return false;
                }
            }
            return true;
        }

        int degreeIn(int x, int set) {
            return Integer.bitCount(near(x) & set);
        }

        int edgesIn(int set) {
            int ends = 0;
            for (int x = 0; x < nodes; x++) {
                if (holds(set, x)) {
                    ends += degreeIn(x, set);
                }
            }
            return ends / 2;
        }

        /** The SORT of a SET. NODES that are still to come count as NODES without EDGES. */
        int sortOf(int set) {
            // Four bits for each DEGREE tell how many NODES have it.
            int having = 0;
            for (int x = 0; x < MOST_NODES; x++) {
                if (holds(set, x)) {
                    having += 1 << 4 * degreeIn(x, set);
                }
            }
            int digits = 0;
            for (int degree = GREATEST_DEGREE; degree >= 0; degree--) {
                for (int left = having >> 4 * degree & 15; left > 0; left--) {
                    digits = digits * 10 + degree;
                }
            }
            return digits;
        }
    }

    /**
     * The SETS of one SIZE in order, with the SORT of each. The rows hold the SETS of all the NODES that there can be,
     * so that a new NODE changes nothing in them; who reads them passes over SETS with NODES that there are not.
     */
    private static final class Sets {
        private final Graph graph;
        private final int[] ownSorts;
        private final int[] members;
        private final int[] sorts;
        private final int[] balance;

        Sets(Graph graph, int size, int howMany, int[] ownSorts) {
            this.graph = graph;
            this.ownSorts = ownSorts;
            members = new int[howMany];
            sorts = new int[howMany];
            balance = new int[ownSorts.length * (GREATEST_DEGREE + 1)];
            fill(members, 0, 0, 0, size);
        }

        /** Writes each SET that has `left` NODES from `least` on beside those of `set`; answers where the next goes. */
        private static int fill(int[] row, int at, int set, int least, int left) {
            if (left <= 0) {
                if (at < row.length) {
                    row[at] = set;
                }
                return at + 1;
            }
            int next = at;
            for (int x = least; x < MOST_NODES; x++) {
                next = fill(row, next, set | 1 << x, x + 1, left - 1);
            }
            return next;
        }

        int placeOfSort(int wanted) {
            for (int i = 0; i < ownSorts.length; i++) {
                if (ownSorts[i] == wanted) {
                    return i;
                }
            }
            return NONE;
        }

        void forgetEdges() {
            Arrays.fill(sorts, 0);
        }

        void sortAgain(int ends) {
            for (int i = 0; i < members.length; i++) {
                if ((members[i] & ends) == ends) {
                    sorts[i] = graph.sortOf(members[i]);
                }
            }
        }

        private static boolean isAmong(int set, int nodes) {
            return (set & ~nodes) == 0;
        }

        /** How many SETS of a SORT have all of `must` and nothing outside of `may`. */
        int tally(int wanted, int must, int may) {
            int n = 0;
            for (int i = 0; i < members.length; i++) {
                if (sorts[i] == wanted && (members[i] & must) == must && isAmong(members[i], may)) {
                    n++;
                }
            }
            return n;
        }

        int tallyPlaced(int wanted, int degree, int x) {
            int all = graph.all();
            int n = 0;
            for (int i = 0; i < members.length; i++) {
                if (sorts[i] == wanted && holds(members[i], x) && isAmong(members[i], all)
                        && graph.degreeIn(x, members[i]) == degree) {
                    n++;
                }
            }
            return n;
        }

        int tallyMixed(int wanted) {
            int all = graph.all();
            int n = 0;
            for (int i = 0; i < members.length; i++) {
                if (sorts[i] == wanted && isAmong(members[i], all) && graph.coloursDiffer(members[i])) {
                    n++;
                }
            }
            return n;
        }

        /** By how many there would be more of a SORT if the EDGE of a and b were there, or gone. */
        int gain(int wanted, int a, int b) {
            int ends = graph.twoOf(a, b);
            int all = graph.all();
            int gain = 0;
            graph.toggle(a, b);
            for (int i = 0; i < members.length; i++) {
                if ((members[i] & ends) == ends && isAmong(members[i], all)) {
                    gain += graph.sortOf(members[i]) == wanted ? 1 : 0;
                    gain -= sorts[i] == wanted ? 1 : 0;
                }
            }
            graph.toggle(a, b);
            return gain;
        }

        /** The k-th SET of a SORT; 0 if there is none such. */
        int setAt(int wanted, int k) {
            int all = graph.all();
            int seen = 0;
            for (int i = 0; i < members.length; i++) {
                if (sorts[i] == wanted && isAmong(members[i], all)) {
                    if (seen == k) {
                        return members[i];
                    }
                    seen++;
                }
            }
            return 0;
        }

        int ahead(int set) {
            int wanted = graph.sortOf(set);
            int all = graph.all();
            int n = 0;
            for (int i = 0; i < members.length && members[i] != set; i++) {
                if (sorts[i] == wanted && isAmong(members[i], all)) {
                    n++;
                }
            }
            return n;
        }

        boolean placeAlike(int x, int y) {
            int all = graph.all();
            Arrays.fill(balance, 0);
            for (int i = 0; i < members.length; i++) {
                if (isAmong(members[i], all)) {
                    weigh(members[i], sorts[i], x, 1);
                    weigh(members[i], sorts[i], y, -1);
                }
            }
            for (int i = 0; i < balance.length; i++) {
                if (balance[i] != 0) {
                    return false;
                }
            }
            return true;
        }

        private void weigh(int set, int ofSort, int x, int by) {
            if (!holds(set, x)) {
                return;
            }
            int at = placeOfSort(ofSort) * (GREATEST_DEGREE + 1) + graph.degreeIn(x, set);
            if (at >= 0 && at < balance.length) {
                balance[at] += by;
            }
        }
    }

    /** RINGS and WAYS that keep to NODES that are still free. */
    private static final class Routes {
        /** A RING through x is a WAY, two EDGES shorter, between two NODES near x. */
        static int ringsThrough(Graph graph, int l, int x, int free) {
            int near = graph.near(x) & free;
            int rings = 0;
            for (int a = 0; a < MOST_NODES; a++) {
                for (int b = a + 1; b < MOST_NODES; b++) {
                    if (holds(near, a) && holds(near, b)) {
                        rings += waysBetween(graph, l - 2, a, b, free & ~(1 << a | 1 << b));
                    }
                }
            }
            return rings;
        }

        private static int waysBetween(Graph graph, int left, int a, int b, int free) {
            if (left <= 1) {
                return left == 1 && graph.joins(a, b) ? 1 : 0;
            }
            int next = graph.near(a) & free;
            if (left == 2) {
                // The last NODE between needs no step of its own: most of the steps would be such.
                return Integer.bitCount(next & graph.near(b));
            }
            int ways = 0;
            for (int x = 0; x < MOST_NODES; x++) {
                if (holds(next, x)) {
                    ways += waysBetween(graph, left - 1, x, b, free & ~(1 << x));
                }
            }
            return ways;
        }
    }
}
