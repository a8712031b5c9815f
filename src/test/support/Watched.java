import java.util.ArrayList;
import java.util.List;

/** An object under test. It keeps the calls done on it, so that they can be done again on a fresh object. */
final class Watched {
    static final int MOST_CALLS = 512;

    private final String sentence;
    private final SmallPieces pieces = new SmallPieces();
    private final List<Call> done = new ArrayList<>();

    /** The sentence of the document that is told with each wrong answer. */
    Watched(String sentence) {
        this.sentence = sentence;
    }

    /** So many NODES, of the COLOURS 0, 1, 2, 3, 0, .., and the EDGES between each two of these ends. */
    static Watched graph(String sentence, int nodes, int... ends) {
        Watched p = new Watched(sentence);
        for (int x = 0; x < nodes; x++) {
            p.ask("node", x % 4);
        }
        for (int i = 0; i < ends.length; i += 2) {
            p.ask("edge", ends[i], ends[i + 1]);
        }
        return p;
    }

    /** Every EDGE that there can be. */
    static Watched complete(String sentence, int nodes) {
        Watched p = graph(sentence, nodes);
        for (int a = 0; a < nodes; a++) {
            for (int b = 0; b < a; b++) {
                p.ask("edge", a, b);
            }
        }
        return p;
    }

    int ask(String name, int... args) {
        if (done.size() == MOST_CALLS) {
            throw new IllegalStateException("the document promises nothing of so many calls: " + sentence);
        }
        Call call = new Call(name, args);
        done.add(call);
        return call.on(pieces);
    }

    void due(int want, String name, int... args) {
        int got = ask(name, args);
        Due.is(sentence, new Call(name, args).toString(), got, want);
    }

    /** The call answers so, and no later call shows that it was done. */
    void keeps(int want, String name, int... args) {
        List<Integer> before = all();
        due(want, name, args);
        if (!all().equals(before)) {
            Due.tell(sentence + ": " + new Call(name, args) + " changed something");
        }
    }

    /** This object and the other one answer all questions alike. */
    void same(Watched other) {
        if (!all().equals(other.all())) {
            Due.tell(sentence + ": two objects that are to answer alike do not");
        }
    }

    int calls() {
        return done.size();
    }

    /** All that can be seen of an object, asked of a fresh one so that this one's calls are not used up. */
    private List<Integer> all() {
        SmallPieces again = new SmallPieces();
        for (Call call : done) {
            call.on(again);
        }
        int nodes = again.told(0);
        List<Integer> seen = new ArrayList<>(List.of(nodes, again.told(1)));
        for (int size = 3; size <= 4; size++) {
            for (int sort : Sorts.of(size)) {
                seen.addAll(List.of(again.count(size, sort), again.change(size, sort), again.mixed(size, sort)));
            }
        }
        for (int x = 0; x < nodes; x++) {
            seen.add(again.degree(x));
            for (int y = 0; y < x; y++) {
                seen.add(again.ways(1, x, y));
            }
        }
        // A COLOUR is seen by giving another one, so these come last.
        for (int x = 0; x < nodes; x++) {
            seen.add(again.colour(x, 0));
        }
        seen.add(again.node(0));
        if (done.size() + seen.size() > MOST_CALLS) {
            throw new IllegalStateException("the document promises nothing of so many calls: " + sentence);
        }
        return seen;
    }
}
