import java.util.ArrayList;
import java.util.List;
import java.util.Random;
import java.util.TreeMap;

/** Many made-up terms under all orders, against the model: what run, result, shared and alike tell. */
public final class ModelTest {
    private static final int OBJECTS = 6000;
    private static final int RUNS = 20;
    private static final Check CHECK = new Check("ModelTest");
    // A seed of our own: the same terms each time.
    private static final Random RANDOM = new Random(20261116);
    private static final List<List<Integer>> ORDERS = new ArrayList<>();
    private static final List<List<Integer>> FULL = new ArrayList<>();
    private static final TreeMap<String, Integer> SEEN = new TreeMap<>();

    private final Renewed acts = new Renewed();
    private final List<Model.Term> terms = new ArrayList<>();
    private final int layers;

    private ModelTest(int layers) {
        this.layers = layers;
    }

    public static void main(String[] args) {
        allOrders(new ArrayList<>());
        ORDERS.stream().filter(order -> order.size() == 4).forEach(FULL::add);
        CHECK.equal("how many orders there are", 65, ORDERS.size());
        CHECK.equal("how many of all four layers", 24, FULL.size());
        for (int i = 0; i < OBJECTS; i++) {
            // The orders of all four layers hold the most cases, so they come oftener.
            List<Integer> order = i % 2 == 0 ? ORDERS.get(i / 2 % ORDERS.size()) : FULL.get(i / 2 % FULL.size());
            ModelTest test = new ModelTest(bits(order));
            test.makeTerms(10 + RANDOM.nextInt(65));
            test.compareRuns(order);
        }
        for (String how : List.of("ENDED", "OUT", "none", "one", "many", "above 20", "alike", "not alike")) {
            CHECK.holds("some runs are to come out as " + how, SEEN.getOrDefault(how, 0) > 100);
        }
        System.out.println("ModelTest: " + SEEN);
        CHECK.end();
    }

    private static void allOrders(List<Integer> begun) {
        ORDERS.add(List.copyOf(begun));
        for (int layer = 0; layer < 4; layer++) {
            if (!begun.contains(layer)) {
                List<Integer> more = new ArrayList<>(begun);
                more.add(layer);
                allOrders(more);
            }
        }
    }

    private static int bits(List<Integer> order) {
        return order.stream().mapToInt(layer -> 1 << layer).sum();
    }

    private static int at(List<Integer> order, int i) {
        return i < order.size() ? order.get(i) : LayeredActs.NONE;
    }

    private static void seen(String how) {
        SEEN.merge(how, 1, Integer::sum);
    }

    private void compareRuns(List<Integer> order) {
        acts.order(at(order, 0), at(order, 1), at(order, 2), at(order, 3));
        for (int i = 0; i < RUNS; i++) {
            // The later terms are the larger ones.
            int t = terms.size() - 1 - RANDOM.nextInt(Math.min(terms.size(), 20));
            int state = RANDOM.nextInt(5) - 1;
            int steps = RANDOM.nextInt(4) == 0 ? 1 + RANDOM.nextInt(60) : 2000;
            String want = Model.told(terms.get(t), order, state, steps);
            int answer = acts.run(t, state, steps);
            CHECK.equal("term " + t + " under " + order, want, latest(answer));
            compareAlike(order, t, state, steps);
            CHECK.equal("term " + t + " under " + order + ", behind alike", want, latest(answer));
            count(want);
        }
    }

    private String latest(int answer) {
        return answer == LayeredActs.OUT ? "OUT" : Told.latest(acts, answer) + " steps " + acts.shared(1);
    }

    private static void count(String told) {
        String results = told.substring(0, Math.max(0, told.indexOf('|')));
        long many = results.chars().filter(c -> c == ' ').count();
        if (told.startsWith("OUT")) {
            seen("OUT");
        } else if (told.startsWith("ENDED")) {
            seen("ENDED");
        } else {
            seen(many == 0 ? "none" : many == 1 ? "one" : many <= 20 ? "many" : "above 20");
        }
    }

    private void compareAlike(List<Integer> order, int t, int state, int steps) {
        int u = RANDOM.nextInt(terms.size());
        String one = Model.told(terms.get(t), order, state, steps).replaceAll(" steps .*", "");
        String other = Model.told(terms.get(u), order, state, steps).replaceAll(" steps .*", "");
        boolean want = one.equals(other) && !one.equals("OUT");
        CHECK.equal("alike " + t + ", " + u + " under " + order, want ? 1 : 0, acts.alike(t, u, state, steps) ? 1 : 0);
        seen(want ? "alike" : "not alike");
    }

    private void makeTerms(int many) {
        for (int i = 0; i < 3; i++) {
            makeLeaf();
        }
        while (terms.size() < many) {
            if (RANDOM.nextInt(3) == 0) {
                makeLeaf();
            } else {
                makeHigher();
            }
        }
    }

    private boolean has(int layer) {
        return (layers & (1 << layer)) != 0;
    }

    private int anyNumber() {
        return RANDOM.nextInt(12) == 0 ? RANDOM.nextInt() : RANDOM.nextInt(6) - 1;
    }

    private int anyTerm() {
        return RANDOM.nextBoolean() ? RANDOM.nextInt(terms.size())
                : terms.size() - 1 - RANDOM.nextInt(Math.min(terms.size(), 5));
    }

    private void keep(Renewed.Call making, Model.Term term) {
        CHECK.equal("the number of a term", terms.size(), acts.make(making));
        terms.add(term);
    }

    private void makeLeaf() {
        boolean named = RANDOM.nextBoolean();
        int x = named ? RANDOM.nextInt(4) : anyNumber();
        int p = RANDOM.nextInt(4);
        int q = RANDOM.nextInt(4);
        int op = RANDOM.nextInt(5);
        int layer = RANDOM.nextInt(6);
        if (layer == 0 && has(0)) {
            if (RANDOM.nextBoolean()) {
                keep(y -> y.read(), new Model.Term("read", false, 0, 0, 0, null, null));
            } else {
                keep(y -> y.write(named, x), new Model.Term("write", named, x, 0, 0, null, null));
            }
        } else if (layer == 1 && has(1)) {
            keep(y -> y.say(named, x), new Model.Term("say", named, x, 0, 0, null, null));
        } else if (layer == 2 && has(2)) {
            keep(y -> y.fail(named, x), new Model.Term("fail", named, x, 0, 0, null, null));
        } else if (layer == 3 && has(3) && RANDOM.nextInt(3) == 0) {
            keep(y -> y.none(), new Model.Term("none", false, 0, 0, 0, null, null));
        } else if (RANDOM.nextBoolean()) {
            keep(y -> y.of(p, q, op), new Model.Term("of", false, op, p, q, null, null));
        } else {
            keep(y -> y.give(named, x), new Model.Term("give", named, x, 0, 0, null, null));
        }
    }

    private void makeHigher() {
        int t = anyTerm();
        int u = anyTerm();
        Model.Term first = terms.get(t);
        Model.Term second = terms.get(u);
        boolean named = RANDOM.nextBoolean();
        int x = named ? RANDOM.nextInt(4) : RANDOM.nextInt(12) - 1;
        int name = RANDOM.nextInt(4);
        int kind = RANDOM.nextInt(18);
        try {
            if (kind >= 13 && has(3)) {
                keep(y -> y.either(t, u), new Model.Term("either", false, 0, 0, 0, first, second));
            } else if (kind <= 2 && has(2)) {
                keep(y -> y.saved(t, name, u), new Model.Term("saved", false, 0, name, 0, first, second));
            } else if (kind == 3 && has(3)) {
                keep(y -> y.as(0, t), new Model.Term("once", false, 0, 0, 0, first, null));
            } else if (kind == 4 && has(1)) {
                keep(y -> y.as(1, t), new Model.Term("heard", false, 0, 0, 0, first, null));
            } else if (kind == 5 && has(1)) {
                keep(y -> y.as(2, t), new Model.Term("hidden", false, 0, 0, 0, first, null));
            } else if (kind <= 7 && kind >= 6) {
                keep(y -> y.times(named, x, t), new Model.Term("times", named, x, 0, 0, first, null));
            } else if (kind == 8) {
                keep(y -> y.when(name, t, u), new Model.Term("when", false, 0, name, 0, first, second));
            } else {
                keep(y -> y.then(t, name, u), new Model.Term("then", false, 0, name, 0, first, second));
            }
        } catch (UnsupportedOperationException e) {
            // Too high: a leaf is made instead, so that the number of terms still grows.
            makeLeaf();
        }
    }
}
