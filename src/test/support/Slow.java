import java.util.ArrayList;
import java.util.Arrays;
import java.util.List;

/** The document's words one by one: everything is counted anew at each call, in lists. */
final class Slow {
    private static final int NONE = -1, OUTSIDE = -2, UNKNOWN = -3, ROOM = -4;

    private List<Integer> colours = new ArrayList<>();
    private boolean[][] joined = new boolean[14][14];
    private boolean[][] ahead = null;

    int node(int colour) {
        if (colour < 0 || colour > 3) return OUTSIDE;
        if (colours.size() == 14) return ROOM;
        ahead = null;
        colours.add(colour);
        return colours.size() - 1;
    }

    int clear() {
        int had = colours.size();
        colours = new ArrayList<>();
        joined = new boolean[14][14];
        ahead = null;
        return had;
    }

    int edge(int a, int b) {
        if (unknown(a, b)) return UNKNOWN;
        ahead = joined;
        joined = turned(a, b);
        return joined[a][b] ? 1 : 0;
    }

    int colour(int x, int c) {
        if (c < 0 || c > 3) return OUTSIDE;
        return unknown(x) ? UNKNOWN : colours.set(x, c);
    }

    int told(int what) {
        if (what == 0) return colours.size();
        if (what != 1) return OUTSIDE;
        int ends = 0;
        for (int x = 0; x < colours.size(); x++) ends += degree(x);
        return ends / 2;
    }

    int degree(int x) {
        if (unknown(x)) return UNKNOWN;
        int n = 0;
        for (boolean is : joined[x]) if (is) n++;
        return n;
    }

    int both(int a, int b) {
        if (unknown(a, b)) return UNKNOWN;
        int n = 0;
        for (int x = 0; x < 14; x++) if (joined[a][x] && joined[b][x]) n++;
        return n;
    }

    int count(int size, int sort) {
        return outside(size, sort) ? OUTSIDE : having(size, sort, joined).size();
    }

    int placed(int size, int sort, int degree, int x) {
        if (outside(size, sort) || degree < 0 || degree > 3) return OUTSIDE;
        if (unknown(x)) return UNKNOWN;
        int n = 0;
        for (List<Integer> set : having(size, sort, joined)) {
            if (set.contains(x) && degreeIn(set, x, joined) == degree) n++;
        }
        return n;
    }

    int pair(int size, int sort, int a, int b) {
        if (outside(size, sort)) return OUTSIDE;
        if (unknown(a, b)) return UNKNOWN;
        int n = 0;
        for (List<Integer> set : having(size, sort, joined)) if (set.contains(a) && set.contains(b)) n++;
        return n;
    }

    int coloured(int size, int sort, int bits) {
        if (outside(size, sort) || bits < 0 || bits > 15) return OUTSIDE;
        int n = 0;
        for (List<Integer> set : having(size, sort, joined)) {
            boolean alone = true;
            for (int x : set) alone = alone && (bits & 1 << colours.get(x)) != 0;
            if (alone) n++;
        }
        return n;
    }

    int mixed(int size, int sort) {
        if (outside(size, sort)) return OUTSIDE;
        int n = 0;
        for (List<Integer> set : having(size, sort, joined)) {
            boolean same = false;
            for (int x : set) for (int y : set) same = same || x != y && colours.get(x).equals(colours.get(y));
            if (!same) n++;
        }
        return n;
    }

    int change(int size, int sort) {
        if (outside(size, sort)) return OUTSIDE;
        return ahead == null ? 0 : having(size, sort, joined).size() - having(size, sort, ahead).size();
    }

    int after(int size, int sort, int a, int b) {
        if (outside(size, sort)) return OUTSIDE;
        if (unknown(a, b)) return UNKNOWN;
        return having(size, sort, turned(a, b)).size() - having(size, sort, joined).size();
    }

    int nth(int size, int sort, int k, int i) {
        if (outside(size, sort)) return OUTSIDE;
        List<List<Integer>> sets = having(size, sort, joined);
        return k < 0 || k >= sets.size() || i < 0 || i >= size ? NONE : sets.get(k).get(i);
    }

    int sort(int a, int b, int c, int d) {
        List<Integer> set = told(a, b, c, d);
        return set == null ? UNKNOWN : sortOf(set, joined);
    }

    int rank(int a, int b, int c, int d) {
        List<Integer> set = told(a, b, c, d);
        return set == null ? UNKNOWN : having(set.size(), sortOf(set, joined), joined).indexOf(set);
    }

    int like(int x, int y) {
        if (unknown(x) || unknown(y)) return UNKNOWN;
        for (int degree = 0; degree < 4; degree++) {
            for (int sort : Sorts.OF_THREE) if (placed(3, sort, degree, x) != placed(3, sort, degree, y)) return 0;
            for (int sort : Sorts.OF_FOUR) if (placed(4, sort, degree, x) != placed(4, sort, degree, y)) return 0;
        }
        return 1;
    }

    int closed(int x, int part) {
        if (part < 0 || part > 1) return OUTSIDE;
        if (unknown(x)) return UNKNOWN;
        int above = 0;
        int below = 0;
        for (int a = 0; a < 14; a++) {
            for (int b = 0; b < a; b++) {
                if (joined[x][a] && joined[x][b]) {
                    below++;
                    if (joined[a][b]) above++;
                }
            }
        }
        if (below == 0) return part;
        int common = java.math.BigInteger.valueOf(above).gcd(java.math.BigInteger.valueOf(below)).intValue();
        return part == 0 ? above / common : below / common;
    }

    int rings(int l) {
        if (l < 3 || l > 6) return OUTSIDE;
        int n = 0;
        for (int x = 0; x < colours.size(); x++) n += ringsBy(l, x);
        return n / l;
    }

    int ringsBy(int l, int x) {
        if (l < 3 || l > 6) return OUTSIDE;
        if (unknown(x)) return UNKNOWN;
        int n = 0;
        for (int y = 0; y < 14; y++) if (joined[y][x]) n += walk(x, y, l - 1, new boolean[14]);
        return n / 2;
    }

    int ways(int l, int a, int b) {
        if (l < 1 || l > 5) return OUTSIDE;
        return unknown(a, b) ? UNKNOWN : walk(a, b, l, new boolean[14]);
    }

    private int walk(int from, int to, int l, boolean[] been) {
        if (l == 0) return from == to ? 1 : 0;
        been[from] = true;
        int n = 0;
        for (int x = 0; x < 14; x++) if (joined[from][x] && !been[x]) n += walk(x, to, l - 1, been);
        been[from] = false;
        return n;
    }

    private boolean unknown(int x) {
        return x < 0 || x >= colours.size();
    }

    private boolean unknown(int a, int b) {
        return unknown(a) || unknown(b) || a == b;
    }

    private boolean outside(int size, int sort) {
        return !Sorts.has(size, sort);
    }

    private boolean[][] turned(int a, int b) {
        boolean[][] other = new boolean[14][];
        for (int x = 0; x < 14; x++) other[x] = joined[x].clone();
        other[a][b] = !other[a][b];
        other[b][a] = !other[b][a];
        return other;
    }

    private List<Integer> told(int a, int b, int c, int d) {
        List<Integer> set = new ArrayList<>();
        for (int x : d == -1 ? new int[] {a, b, c} : new int[] {a, b, c, d}) {
            if (unknown(x) || set.contains(x)) return null;
            set.add(x);
        }
        set.sort(null);
        return set;
    }

    private List<List<Integer>> having(int size, int sort, boolean[][] graph) {
        List<List<Integer>> sets = new ArrayList<>();
        int n = colours.size();
        for (int a = 0; a < n; a++) for (int b = a + 1; b < n; b++) for (int c = b + 1; c < n; c++) {
            if (size == 3) sets.add(List.of(a, b, c));
            for (int d = c + 1; d < n && size == 4; d++) sets.add(List.of(a, b, c, d));
        }
        sets.removeIf(set -> sortOf(set, graph) != sort);
        return sets;
    }

    private static int sortOf(List<Integer> set, boolean[][] graph) {
        int[] degrees = new int[set.size()];
        for (int i = 0; i < degrees.length; i++) degrees[i] = degreeIn(set, set.get(i), graph);
        Arrays.sort(degrees);
        int sort = 0;
        for (int i = degrees.length - 1; i >= 0; i--) sort = sort * 10 + degrees[i];
        return sort;
    }

    private static int degreeIn(List<Integer> set, int x, boolean[][] graph) {
        int n = 0;
        for (int y : set) if (graph[x][y]) n++;
        return n;
    }
}
