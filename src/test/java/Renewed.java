import java.util.ArrayList;
import java.util.List;

/** An object that is made anew, as it was, when the calls that it may be used for are spent. */
final class Renewed implements Told.Source {
    private static final int MOST_CALLS = 512;

    /** A call on the object, whichever it is then. */
    interface Call {
        int on(LayeredActs x);
    }

    private final List<Call> terms = new ArrayList<>();
    private LayeredActs object = new LayeredActs();
    private int calls;
    private Call order = LayeredActs::terms;
    private Call latest = LayeredActs::terms;

    private LayeredActs forOneCall() {
        if (calls == MOST_CALLS) {
            object = new LayeredActs();
            terms.forEach(making -> making.on(object));
            order.on(object);
            latest.on(object);
            calls = terms.size() + 2;
        }
        calls++;
        return object;
    }

    int make(Call making) {
        int number = making.on(forOneCall());
        terms.add(making);
        return number;
    }

    int order(int a, int b, int c, int d) {
        order = x -> x.order(a, b, c, d);
        return order.on(forOneCall());
    }

    int run(int t, int state, int steps) {
        latest = x -> x.run(t, state, steps);
        return latest.on(forOneCall());
    }

    boolean alike(int t, int u, int state, int steps) {
        return forOneCall().alike(t, u, state, steps);
    }

    @Override
    public int result(int k, int what) {
        return forOneCall().result(k, what);
    }

    @Override
    public int shared(int what) {
        return forOneCall().shared(what);
    }
}
