import java.util.ArrayList;
import java.util.Arrays;
import java.util.List;
import java.util.stream.IntStream;

/**
 * Every call with every mixture of values at its bounds and beyond them, in graphs from none to full, and every
 * question there is of every graph of four NODES: each answer compared with that of the slow second writing.
 */
public final class SweepTest {
    private static final int LEAST = Integer.MIN_VALUE, MOST = Integer.MAX_VALUE;

    /** What an argument is; the values that stand at and beyond its bounds, all of them and the nearest alone. */
    private enum Kind {
        COLOUR(new int[] {LEAST, -4, -1, 0, 1, 2, 3, 4, 5, 32, 256, MOST}),
        BIT(new int[] {LEAST, -2, -1, 0, 1, 2, 3, 256, MOST}),
        SIZE(new int[] {LEAST, -4, -3, 0, 1, 2, 3, 4, 5, 6, 35, 36, 259, MOST}, 2, 3, 4, 5),
        SORT(new int[] {LEAST, -110, -1, 0, 1, 11, 100, 101, 109, 110, 111, 112, 121, 210, 211, 212, 220, 221, 222, 223,
            1001, 1099, 1100, 1101, 1110, 1111, 1112, 2109, 2110, 2111, 2200, 2210, 2211, 2212, 2219, 2220, 2221, 2222,
            2223, 3110, 3111, 3112, 3211, 3220, 3221, 3222, 3321, 3322, 3323, 3331, 3332, 3333, 3334, 4444, 33330,
            65646, MOST},
            -1, 0, 110, 111, 211, 222, 1100, 1111, 2110, 2211, 2220, 2222, 3111, 3221, 3322, 3332, 3333),
        DEGREE(new int[] {LEAST, -1, 0, 1, 2, 3, 4, 5, MOST}),
        COLOURS(new int[] {LEAST, -16, -1, 0, 1, 2, 3, 4, 5, 6, 7, 8, 9, 10, 11, 12, 13, 14, 15, 16, 17, 31, 32, MOST}),
        LENGTH(new int[] {LEAST, -3, -1, 0, 1, 2, 3, 4, 5, 6, 7, 8, 35, MOST}),
        PLACE(new int[] {LEAST, -1, 0, 1, 2, 3, 4, 9, 65, 66, 285, 286, 363, 364, 1000, 1001, MOST}),
        MEMBER(new int[] {LEAST, -1, 0, 1, 2, 3, 4, 5, 32, MOST}),
        NODE(new int[] {LEAST, -33, -32, -31, -2, -1, 0, 1, 2, 3, 4, 5, 12, 13, 14, 15, 16, 31, 32, 33, 64, MOST},
            -2, -1, 0, 1, 4, 5, 13, 14, 32);

        private final int[] all;
        private final int[] nearest;

        Kind(int[] all, int... nearest) {
            this.all = all;
            this.nearest = nearest.length == 0 ? all : nearest;
        }
    }

    public static void main(String[] args) {
        List<Call> questions = questions();
        List<Call> changes = changes();
        for (List<Call> beginning : beginnings()) {
            String run = "behind " + beginning;
            Beside.compareAll(run, beginning, questions);
            Beside.compareAll(run, beginning, changes);
        }
        List<Call> allOfFour = allOfFour();
        for (int graph = 0; graph < 64; graph++) {
            Beside.compareAll("graph " + graph + " of four nodes", ofFour(graph), allOfFour);
        }
        Due.end();
    }

    /** None, one, two and three NODES, some, all but one, all without an EDGE and with each one; and one cleared. */
    private static List<List<Call>> beginnings() {
        List<Call> full = full();
        List<Call> oneGone = new ArrayList<>(full);
        oneGone.add(new Call("edge", 0, 13));
        List<Call> cleared = new ArrayList<>(full);
        cleared.add(new Call("clear"));
        List<Call> anew = new ArrayList<>(cleared);
        anew.addAll(graph(5, 0, 1, 1, 2, 2, 3, 3, 0, 0, 2, 0, 4));
        return List.of(graph(0), graph(1), graph(2, 0, 1), graph(3, 0, 1, 1, 2, 0, 1),
                graph(5, 0, 1, 1, 2, 2, 0, 2, 3), graph(6, 0, 1, 1, 2, 2, 3, 3, 4, 4, 5, 5, 0, 0, 3),
                graph(13, 12, 0, 12, 1, 12, 2, 0, 1, 4, 5, 11, 12), graph(14), full, oneGone, cleared, anew);
    }

    private static List<Call> graph(int nodes, int... ends) {
        List<Call> calls = new ArrayList<>();
        for (int x = 0; x < nodes; x++) {
            calls.add(new Call("node", x % 4));
        }
        for (int i = 0; i < ends.length; i += 2) {
            calls.add(new Call("edge", ends[i], ends[i + 1]));
        }
        return calls;
    }

    private static List<Call> full() {
        List<Call> calls = graph(14);
        for (int a = 0; a < 14; a++) {
            for (int b = 0; b < a; b++) {
                calls.add(new Call("edge", a, b));
            }
        }
        return calls;
    }

    private static List<Call> questions() {
        List<Call> calls = new ArrayList<>();
        mix(calls, "told", Kind.BIT);
        mix(calls, "degree", Kind.NODE);
        mix(calls, "both", Kind.NODE, Kind.NODE);
        mix(calls, "count", Kind.SIZE, Kind.SORT);
        mix(calls, "placed", Kind.SIZE, Kind.SORT, Kind.DEGREE, Kind.NODE);
        mix(calls, "pair", Kind.SIZE, Kind.SORT, Kind.NODE, Kind.NODE);
        mix(calls, "coloured", Kind.SIZE, Kind.SORT, Kind.COLOURS);
        mix(calls, "mixed", Kind.SIZE, Kind.SORT);
        mix(calls, "change", Kind.SIZE, Kind.SORT);
        mix(calls, "after", Kind.SIZE, Kind.SORT, Kind.NODE, Kind.NODE);
        mix(calls, "nth", Kind.SIZE, Kind.SORT, Kind.PLACE, Kind.MEMBER);
        mix(calls, "sort", Kind.NODE, Kind.NODE, Kind.NODE, Kind.NODE);
        mix(calls, "rank", Kind.NODE, Kind.NODE, Kind.NODE, Kind.NODE);
        mix(calls, "like", Kind.NODE, Kind.NODE);
        mix(calls, "closed", Kind.NODE, Kind.BIT);
        mix(calls, "rings", Kind.LENGTH);
        mix(calls, "ringsBy", Kind.LENGTH, Kind.NODE);
        mix(calls, "ways", Kind.LENGTH, Kind.NODE, Kind.NODE);
        return calls;
    }

    /** Each call that may change something, done or refused, and behind each what shows whether it did. */
    private static List<Call> changes() {
        List<Call> changes = new ArrayList<>();
        mix(changes, "colour", Kind.NODE, Kind.COLOUR);
        mix(changes, "edge", Kind.NODE, Kind.NODE);
        mix(changes, "node", Kind.COLOUR);
        changes.add(new Call("clear"));
        mix(changes, "node", Kind.COLOUR);
        mix(changes, "edge", Kind.NODE, Kind.NODE);
        List<Call> calls = new ArrayList<>();
        for (Call change : changes) {
            calls.add(change);
            calls.add(new Call("told", 0));
            calls.add(new Call("told", 1));
            calls.add(new Call("change", 3, 0));
            calls.add(new Call("change", 4, 1100));
            calls.add(new Call("change", 4, 3333));
            calls.add(new Call("coloured", 3, 0, 5));
            calls.add(new Call("mixed", 3, 222));
        }
        return calls;
    }

    /** One bit of the number for each EDGE that four NODES can have. */
    private static List<Call> ofFour(int edges) {
        List<Call> calls = graph(4);
        int bit = 0;
        for (int a = 0; a < 4; a++) {
            for (int b = 0; b < a; b++) {
                if ((edges >> bit & 1) == 1) {
                    calls.add(new Call("edge", a, b));
                }
                bit++;
            }
        }
        return calls;
    }

    private static List<Call> allOfFour() {
        int[] nodes = {0, 1, 2, 3};
        int[] upTo = {-1, 0, 1, 2, 3};
        int[] lengths = {1, 2, 3, 4, 5, 6};
        List<Call> calls = new ArrayList<>();
        for (int size = 3; size <= 4; size++) {
            int[] ofSize = {size};
            int[] sorts = Sorts.of(size);
            for (String name : new String[] {"count", "mixed", "change"}) {
                mix(calls, name, ofSize, sorts);
            }
            mix(calls, "placed", ofSize, sorts, nodes, nodes);
            mix(calls, "pair", ofSize, sorts, nodes, nodes);
            mix(calls, "after", ofSize, sorts, nodes, nodes);
            mix(calls, "nth", ofSize, sorts, upTo, nodes);
        }
        mix(calls, "both", nodes, nodes);
        mix(calls, "like", nodes, nodes);
        mix(calls, "closed", nodes, new int[] {0, 1});
        mix(calls, "sort", nodes, nodes, nodes, upTo);
        mix(calls, "rank", nodes, nodes, nodes, upTo);
        mix(calls, "rings", lengths);
        mix(calls, "ringsBy", lengths, nodes);
        mix(calls, "ways", lengths, nodes, nodes);
        return calls;
    }

    /** Calls of one or two arguments take all values of each, the others the nearest ones. */
    private static void mix(List<Call> calls, String name, Kind... kinds) {
        int[][] values = new int[kinds.length][];
        for (int i = 0; i < kinds.length; i++) {
            values[i] = kinds.length > 2 ? kinds[i].nearest : kinds[i].all;
        }
        mix(calls, name, values);
    }

    private static void mix(List<Call> calls, String name, int[]... values) {
        List<int[]> mixtures = List.of(new int[0]);
        for (int[] next : values) {
            List<int[]> longer = new ArrayList<>();
            for (int[] mixture : mixtures) {
                for (int value : next) {
                    longer.add(IntStream.concat(Arrays.stream(mixture), IntStream.of(value)).toArray());
                }
            }
            mixtures = longer;
        }
        for (int[] mixture : mixtures) {
            calls.add(new Call(name, mixture));
        }
    }
}
