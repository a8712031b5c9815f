import java.util.ArrayList;
import java.util.List;
import java.util.Random;

/** Long runs of calls, right and wrong ones, each answer compared with that of the slow second writing. */
public final class AgainstSlowTest {
    private static final int[] ODD = {-1, -2, -3, -4, 4, 5, 7, 14, 15, 16, 31, 32, 33, 100, 110, 1100, 3331, 10000,
        Integer.MAX_VALUE, Integer.MIN_VALUE};
    // Told more than once: what is to be called more often.
    private static final String[] NAMES = {"node", "edge", "edge", "edge", "edge", "colour", "colour", "told", "degree",
        "both", "count", "placed", "placed", "pair", "pair", "coloured", "coloured", "mixed", "change", "change",
        "change", "after", "after", "nth", "nth", "sort", "sort", "rank", "rank", "like", "like", "closed", "closed",
        "rings", "ringsBy", "ways", "ways"};

    public static void main(String[] args) {
        for (int run = 0; run < 240; run++) {
            Beside.compare("run " + run, calls(new Random(run)));
        }
        Due.end();
    }

    private static List<Call> calls(Random random) {
        List<Call> calls = new ArrayList<>();
        int nodes = begin(calls, random);
        while (calls.size() < Watched.MOST_CALLS) {
            if (random.nextInt(300) == 0) {
                calls.add(new Call("clear"));
                nodes = begin(calls, random);
            } else {
                Call call = anyCall(random, nodes);
                calls.add(call);
                nodes = addsNode(call) ? Math.min(14, nodes + 1) : nodes;
            }
        }
        return calls.subList(0, Watched.MOST_CALLS);
    }

    private static boolean addsNode(Call call) {
        return call.name().equals("node") && call.args()[0] >= 0 && call.args()[0] <= 3;
    }

    /** A graph of any size, with few or many EDGES: how many NODES it has. */
    private static int begin(List<Call> calls, Random random) {
        int nodes = random.nextInt(15);
        int density = random.nextInt(101);
        for (int x = 0; x < nodes; x++) {
            calls.add(new Call("node", random.nextInt(4)));
        }
        for (int a = 0; a < nodes; a++) {
            for (int b = 0; b < a; b++) {
                if (random.nextInt(100) < density) {
                    calls.add(new Call("edge", a, b));
                }
            }
        }
        return nodes;
    }

    private static Call anyCall(Random random, int nodes) {
        Call call = rightCall(random, nodes, NAMES[random.nextInt(NAMES.length)]);
        if (random.nextInt(8) == 0) {
            call.args()[random.nextInt(call.args().length)] = ODD[random.nextInt(ODD.length)];
        }
        return call;
    }

    private static Call rightCall(Random random, int nodes, String name) {
        int size = 3 + random.nextInt(2);
        int[] sorts = Sorts.of(size);
        int sort = sorts[random.nextInt(sorts.length)];
        int bound = Math.max(1, nodes);
        int a = random.nextInt(bound);
        int b = random.nextInt(bound);
        int l = 1 + random.nextInt(6);
        return switch (name) {
            case "node" -> new Call(name, random.nextInt(4));
            case "colour" -> new Call(name, a, random.nextInt(4));
            case "told" -> new Call(name, random.nextInt(2));
            case "degree" -> new Call(name, a);
            case "count", "mixed", "change" -> new Call(name, size, sort);
            case "placed" -> new Call(name, size, sort, random.nextInt(4), a);
            case "pair", "after" -> new Call(name, size, sort, a, b);
            case "coloured" -> new Call(name, size, sort, random.nextInt(16));
            case "nth" -> new Call(name, size, sort, random.nextInt(random.nextBoolean() ? 5 : 200), random.nextInt(4));
            case "sort", "rank" -> new Call(name, a, b, random.nextInt(bound),
                    random.nextBoolean() ? -1 : random.nextInt(bound));
            case "closed" -> new Call(name, a, random.nextInt(2));
            case "rings" -> new Call(name, Math.max(3, l));
            case "ringsBy" -> new Call(name, Math.max(3, l), a);
            case "ways" -> new Call(name, Math.min(5, l), a, b);
            default -> new Call(name, a, b);
        };
    }
}
