/**
 * Writes what an object tells of its latest run as one text: each result as its number (behind ! if
 * it is an error), its state behind @ and its log in brackets, where it has them; then, behind a
 * bar, the shared state and log, where they are there.
 */
final class Told {
    private static final int STATE_THERE = 2, STATE = 3, LOG_SIZE = 4, LOG = 5;

    private Told() {
    }

    /** Something that answers as result() and shared() do. */
    interface Source {
        int result(int k, int what);

        int shared(int what);
    }

    /** Something that answers as result(k, ..) or shared(..) does. */
    private interface Asked {
        int answer(int what);
    }

    private record Plain(LayeredActs x) implements Source {
        @Override
        public int result(int k, int what) {
            return x.result(k, what);
        }

        @Override
        public int shared(int what) {
            return x.shared(what);
        }
    }

    static String run(LayeredActs x, int term, int state, int steps) {
        int answer = x.run(term, state, steps);
        return answer == LayeredActs.OUT ? "OUT" : latest(x, answer);
    }

    static String run(LayeredActs x, int term) {
        return run(x, term, 5, 2000);
    }

    static String latest(LayeredActs x, int answer) {
        return latest(new Plain(x), answer);
    }

    static String latest(Source x, int answer) {
        StringBuilder text = new StringBuilder();
        if (answer == LayeredActs.ENDED) {
            text.append("ENDED ").append(x.shared(0)).append(' ');
        }
        for (int k = 0; k < answer; k++) {
            int result = k;
            text.append(x.result(k, 1) == 1 ? "!" : "").append(x.result(k, 0));
            appendLayers(text, what -> x.result(result, what));
            text.append(' ');
        }
        text.append('|');
        appendLayers(text, x::shared);
        return text.toString();
    }

    private static void appendLayers(StringBuilder text, Asked asked) {
        if (asked.answer(STATE_THERE) == 1) {
            text.append('@').append(asked.answer(STATE));
        } else if (asked.answer(STATE) != 0) {
            text.append("a state that is not there is not 0");
        }
        int size = asked.answer(LOG_SIZE);
        if (size == LayeredActs.NONE) {
            return;
        }
        text.append('[');
        for (int i = 0; i < size; i++) {
            text.append(i == 0 ? "" : ",").append(asked.answer(LOG + i));
        }
        text.append(']');
    }
}
