import java.util.ArrayList;
import java.util.Arrays;
import java.util.List;
import java.util.Random;

/** Long runs of calls, right and wrong ones, each answer compared with that of a slow second writing of the document. */
public final class AgainstSlowTest {
    private static final int CALLS = 512;
    private static final int[] SORTS_OF_THREE = {0, 110, 211, 222};
    private static final int[] SORTS_OF_FOUR = {0, 1100, 1111, 2110, 2211, 2220, 2222, 3111, 3221, 3322, 3333};
    private static final int[] ODD = {-1, -2, -3, -4, 4, 5, 7, 14, 15, 16, 31, 32, 33, 100, 110, 1100, 3331, 10000,
        Integer.MAX_VALUE, Integer.MIN_VALUE};
    // Told more than once: what is to be called more often.
    private static final String[] NAMES = {"node", "edge", "edge", "edge", "edge", "colour", "colour", "told", "degree",
        "both", "count", "placed", "placed", "pair", "pair", "coloured", "coloured", "mixed", "change", "change",
        "change", "after", "after", "nth", "nth", "sort", "sort", "rank", "rank", "like", "like", "closed", "closed",
        "rings", "ringsBy", "ways", "ways"};

    public static void main(String[] args) throws ReflectiveOperationException {
        int wrong = 0;
        for (int run = 0; run < 240; run++) {
            wrong += compare(run);
        }
        if (wrong != 0) {
            System.out.println(wrong + " runs differ from the slow writing");
            System.exit(1);
        }
        System.out.println("all runs agree with the slow writing");
    }

    private record Call(String name, int... args) {
        @Override
        public String toString() {
            return name + Arrays.toString(args);
        }
    }

    /** A run ends at its first difference: what follows would only repeat it. */
    private static int compare(int run) throws ReflectiveOperationException {
        Random random = new Random(run);
        SmallPieces fast = new SmallPieces();
        Slow slow = new Slow();
        int nodes = random.nextInt(15);
        int density = random.nextInt(101);
        List<Call> calls = beginning(random, nodes, density);
        while (calls.size() < CALLS) {
            calls.add(anyCall(random, nodes));
        }
        for (int i = 0; i < calls.size(); i++) {
            Call call = calls.get(i);
            int got = answer(fast, call);
            int due = answer(slow, call);
            if (got != due) {
                System.out.println("run " + run + ", call " + i + ": " + call + " answered " + got + ", due is " + due);
                return 1;
            }
        }
        return 0;
    }

    /** Both writings have the same face, but no type in common. */
    private static int answer(Object pieces, Call call) throws ReflectiveOperationException {
        Class<?>[] types = new Class<?>[call.args.length];
        Arrays.fill(types, int.class);
        Object[] args = Arrays.stream(call.args).boxed().toArray();
        return (Integer) pieces.getClass().getDeclaredMethod(call.name, types).invoke(pieces, args);
    }

    private static List<Call> beginning(Random random, int nodes, int density) {
        List<Call> calls = new ArrayList<>();
        for (int x = 0; x < nodes; x++) {
            calls.add(new Call("node", random.nextInt(4)));
        }
        for (int a = 0; a < nodes; a++) {
            for (int b = 0; b < a; b++) {
                if (random.nextInt(100) < density) {
                    calls.add(new Call("edge", a, b));
                }
            }
        }
        return calls;
    }

    private static Call anyCall(Random random, int nodes) {
        if (random.nextInt(400) == 0) {
            return new Call("clear");
        }
        Call call = rightCall(random, nodes, NAMES[random.nextInt(NAMES.length)]);
        if (random.nextInt(8) == 0) {
            call.args[random.nextInt(call.args.length)] = ODD[random.nextInt(ODD.length)];
        }
        return call;
    }

    private static Call rightCall(Random random, int nodes, String name) {
        int size = 3 + random.nextInt(2);
        int[] sorts = size == 3 ? SORTS_OF_THREE : SORTS_OF_FOUR;
        int sort = sorts[random.nextInt(sorts.length)];
        int bound = Math.max(1, nodes);
        int a = random.nextInt(bound);
        int b = random.nextInt(bound);
        int l = 1 + random.nextInt(6);
        return switch (name) {
            case "node" -> new Call(name, random.nextInt(4));
            case "colour" -> new Call(name, a, random.nextInt(4));
            case "told" -> new Call(name, random.nextInt(2));
            case "degree" -> new Call(name, a);
            case "count", "mixed", "change" -> new Call(name, size, sort);
            case "placed" -> new Call(name, size, sort, random.nextInt(4), a);
            case "pair", "after" -> new Call(name, size, sort, a, b);
            case "coloured" -> new Call(name, size, sort, random.nextInt(16));
            case "nth" -> new Call(name, size, sort, random.nextInt(random.nextBoolean() ? 5 : 200), random.nextInt(4));
            case "sort", "rank" -> new Call(name, a, b, random.nextInt(bound),
                    random.nextBoolean() ? -1 : random.nextInt(bound));
            case "closed" -> new Call(name, a, random.nextInt(2));
            case "rings" -> new Call(name, Math.max(3, l));
            case "ringsBy" -> new Call(name, Math.max(3, l), a);
            case "ways" -> new Call(name, Math.min(5, l), a, b);
            default -> new Call(name, a, b);
        };
    }

    /** The document's words one by one: everything is counted anew at each call, in lists. */
    private static final class Slow {
        private static final int NONE = -1, OUTSIDE = -2, UNKNOWN = -3, ROOM = -4;

        private List<Integer> colours = new ArrayList<>();
        private boolean[][] joined = new boolean[14][14];
        private boolean[][] ahead = null;

        int node(int colour) {
            if (colour < 0 || colour > 3) return OUTSIDE;
            if (colours.size() == 14) return ROOM;
            ahead = null;
            colours.add(colour);
            return colours.size() - 1;
        }

        int clear() {
            int had = colours.size();
            colours = new ArrayList<>();
            joined = new boolean[14][14];
            ahead = null;
            return had;
        }

        int edge(int a, int b) {
            if (unknown(a, b)) return UNKNOWN;
            ahead = joined;
            joined = turned(a, b);
            return joined[a][b] ? 1 : 0;
        }

        int colour(int x, int c) {
            if (c < 0 || c > 3) return OUTSIDE;
            return unknown(x) ? UNKNOWN : colours.set(x, c);
        }

        int told(int what) {
            if (what == 0) return colours.size();
            if (what != 1) return OUTSIDE;
            int ends = 0;
            for (int x = 0; x < colours.size(); x++) ends += degree(x);
            return ends / 2;
        }

        int degree(int x) {
            if (unknown(x)) return UNKNOWN;
            int n = 0;
            for (boolean is : joined[x]) if (is) n++;
            return n;
        }

        int both(int a, int b) {
            if (unknown(a, b)) return UNKNOWN;
            int n = 0;
            for (int x = 0; x < 14; x++) if (joined[a][x] && joined[b][x]) n++;
            return n;
        }

        int count(int size, int sort) {
            return outside(size, sort) ? OUTSIDE : having(size, sort, joined).size();
        }

        int placed(int size, int sort, int degree, int x) {
            if (outside(size, sort) || degree < 0 || degree > 3) return OUTSIDE;
            if (unknown(x)) return UNKNOWN;
            int n = 0;
            for (List<Integer> set : having(size, sort, joined)) {
                if (set.contains(x) && degreeIn(set, x, joined) == degree) n++;
            }
            return n;
        }

        int pair(int size, int sort, int a, int b) {
            if (outside(size, sort)) return OUTSIDE;
            if (unknown(a, b)) return UNKNOWN;
            int n = 0;
            for (List<Integer> set : having(size, sort, joined)) if (set.contains(a) && set.contains(b)) n++;
            return n;
        }

        int coloured(int size, int sort, int bits) {
            if (outside(size, sort) || bits < 0 || bits > 15) return OUTSIDE;
            int n = 0;
            for (List<Integer> set : having(size, sort, joined)) {
                boolean alone = true;
                for (int x : set) alone = alone && (bits & 1 << colours.get(x)) != 0;
                if (alone) n++;
            }
            return n;
        }

        int mixed(int size, int sort) {
            if (outside(size, sort)) return OUTSIDE;
            int n = 0;
            for (List<Integer> set : having(size, sort, joined)) {
                boolean same = false;
                for (int x : set) for (int y : set) same = same || x != y && colours.get(x).equals(colours.get(y));
                if (!same) n++;
            }
            return n;
        }

        int change(int size, int sort) {
            if (outside(size, sort)) return OUTSIDE;
            return ahead == null ? 0 : having(size, sort, joined).size() - having(size, sort, ahead).size();
        }

        int after(int size, int sort, int a, int b) {
            if (outside(size, sort)) return OUTSIDE;
            if (unknown(a, b)) return UNKNOWN;
            return having(size, sort, turned(a, b)).size() - having(size, sort, joined).size();
        }

        int nth(int size, int sort, int k, int i) {
            if (outside(size, sort)) return OUTSIDE;
            List<List<Integer>> sets = having(size, sort, joined);
            return k < 0 || k >= sets.size() || i < 0 || i >= size ? NONE : sets.get(k).get(i);
        }

        int sort(int a, int b, int c, int d) {
            List<Integer> set = told(a, b, c, d);
            return set == null ? UNKNOWN : sortOf(set, joined);
        }

        int rank(int a, int b, int c, int d) {
            List<Integer> set = told(a, b, c, d);
            return set == null ? UNKNOWN : having(set.size(), sortOf(set, joined), joined).indexOf(set);
        }

        int like(int x, int y) {
            if (unknown(x) || unknown(y)) return UNKNOWN;
            for (int degree = 0; degree < 4; degree++) {
                for (int sort : SORTS_OF_THREE) if (placed(3, sort, degree, x) != placed(3, sort, degree, y)) return 0;
                for (int sort : SORTS_OF_FOUR) if (placed(4, sort, degree, x) != placed(4, sort, degree, y)) return 0;
            }
            return 1;
        }

        int closed(int x, int part) {
            if (part < 0 || part > 1) return OUTSIDE;
            if (unknown(x)) return UNKNOWN;
            int above = 0;
            int below = 0;
            for (int a = 0; a < 14; a++) {
                for (int b = 0; b < a; b++) {
                    if (joined[x][a] && joined[x][b]) {
                        below++;
                        if (joined[a][b]) above++;
                    }
                }
            }
            if (below == 0) return part;
            int common = java.math.BigInteger.valueOf(above).gcd(java.math.BigInteger.valueOf(below)).intValue();
            return part == 0 ? above / common : below / common;
        }

        int rings(int l) {
            if (l < 3 || l > 6) return OUTSIDE;
            int n = 0;
            for (int x = 0; x < colours.size(); x++) n += ringsBy(l, x);
            return n / l;
        }

        int ringsBy(int l, int x) {
            if (l < 3 || l > 6) return OUTSIDE;
            if (unknown(x)) return UNKNOWN;
            int n = 0;
            for (int y = 0; y < 14; y++) if (joined[y][x]) n += walk(x, y, l - 1, new boolean[14]);
            return n / 2;
        }

        int ways(int l, int a, int b) {
            if (l < 1 || l > 5) return OUTSIDE;
            return unknown(a, b) ? UNKNOWN : walk(a, b, l, new boolean[14]);
        }

        private int walk(int from, int to, int l, boolean[] been) {
            if (l == 0) return from == to ? 1 : 0;
            been[from] = true;
            int n = 0;
            for (int x = 0; x < 14; x++) if (joined[from][x] && !been[x]) n += walk(x, to, l - 1, been);
            been[from] = false;
            return n;
        }

        private boolean unknown(int x) {
            return x < 0 || x >= colours.size();
        }

        private boolean unknown(int a, int b) {
            return unknown(a) || unknown(b) || a == b;
        }

        private boolean outside(int size, int sort) {
            int[] sorts = size == 3 ? SORTS_OF_THREE : size == 4 ? SORTS_OF_FOUR : new int[0];
            for (int known : sorts) if (known == sort) return false;
            return true;
        }

        private boolean[][] turned(int a, int b) {
            boolean[][] other = new boolean[14][];
            for (int x = 0; x < 14; x++) other[x] = joined[x].clone();
            other[a][b] = !other[a][b];
            other[b][a] = !other[b][a];
            return other;
        }

        private List<Integer> told(int a, int b, int c, int d) {
            List<Integer> set = new ArrayList<>();
            for (int x : d == -1 ? new int[] {a, b, c} : new int[] {a, b, c, d}) {
                if (unknown(x) || set.contains(x)) return null;
                set.add(x);
            }
            set.sort(null);
            return set;
        }

        private List<List<Integer>> having(int size, int sort, boolean[][] graph) {
            List<List<Integer>> sets = new ArrayList<>();
            int n = colours.size();
            for (int a = 0; a < n; a++) for (int b = a + 1; b < n; b++) for (int c = b + 1; c < n; c++) {
                if (size == 3) sets.add(List.of(a, b, c));
                for (int d = c + 1; d < n && size == 4; d++) sets.add(List.of(a, b, c, d));
            }
            sets.removeIf(set -> sortOf(set, graph) != sort);
            return sets;
        }

        private static int sortOf(List<Integer> set, boolean[][] graph) {
            int[] degrees = new int[set.size()];
            for (int i = 0; i < degrees.length; i++) degrees[i] = degreeIn(set, set.get(i), graph);
            Arrays.sort(degrees);
            int sort = 0;
            for (int i = degrees.length - 1; i >= 0; i--) sort = sort * 10 + degrees[i];
            return sort;
        }

        private static int degreeIn(List<Integer> set, int x, boolean[][] graph) {
            int n = 0;
            for (int y : set) if (graph[x][y]) n++;
            return n;
        }
    }
}
