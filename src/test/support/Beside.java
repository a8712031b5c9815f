import java.util.ArrayList;
import java.util.List;

/** Runs of calls on SmallPieces and on Slow, side by side. */
final class Beside {
    private Beside() {
    }

    /** A run ends at its first difference: what follows would only repeat it. */
    static void compare(String run, List<Call> calls) {
        if (calls.size() > Watched.MOST_CALLS) {
            throw new IllegalStateException("the document promises nothing of so many calls: " + run);
        }
        SmallPieces fast = new SmallPieces();
        Slow slow = new Slow();
        for (int i = 0; i < calls.size(); i++) {
            int got = calls.get(i).on(fast);
            int due = calls.get(i).on(slow);
            Due.is(run + ", call " + i, calls.get(i).toString(), got, due);
            if (got != due) {
                return;
            }
        }
    }

    /** All the questions behind the same beginning, on as many fresh objects as it takes. */
    static void compareAll(String run, List<Call> beginning, List<Call> questions) {
        int at = 0;
        while (at < questions.size()) {
            int to = Math.min(questions.size(), at + Watched.MOST_CALLS - beginning.size());
            List<Call> calls = new ArrayList<>(beginning);
            calls.addAll(questions.subList(at, to));
            compare(run + ", questions from " + at + " on", calls);
            at = to;
        }
    }
}
