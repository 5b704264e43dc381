import java.util.ArrayList;
import java.util.List;

/** Orders, with all places of what is left out, and what follows from them: promises 15 and 17. */
public final class LayersTest {
    private static final int NONE = LayeredActs.NONE, ENDED = LayeredActs.ENDED;
    private static final int STATE = 0, LOG = 1, ERROR = 2, CHOICE = 3;
    private static final int ERROR_TOLD = 1, STATE_THERE = 2, STATE_TOLD = 3, LOG_SIZE = 4;
    private static final int MIN = Integer.MIN_VALUE, MAX = Integer.MAX_VALUE;
    private static final Check CHECK = new Check("LayersTest");

    private LayersTest() {
    }

    public static void main(String[] args) {
        howManyLayers();
        anotherNumber();
        aLayerTwice();
        aRefusedOrder();
        fromNowOn();
        anActNeedsItsLayer();
        aLayerOfAPartThatIsNotDone();
        List<Order> orders = allOrders();
        CHECK.equal("how many orders there are, with their gaps", 209, orders.size());
        orders.forEach(LayersTest::stateOwnOrShared);
        orders.forEach(LayersTest::logOwnOrShared);
        orders.forEach(LayersTest::errorOwnOrShared);
        orders.forEach(LayersTest::whatAnErrorHas);
        orders.forEach(LayersTest::whatSavedBeginsWith);
        CHECK.end();
    }

    /** Four numbers that order() takes. */
    private record Order(int a, int b, int c, int d) {
        private List<Integer> places() {
            return List.of(a, b, c, d);
        }

        boolean has(int layer) {
            return places().contains(layer);
        }

        boolean outside(int layer, int other) {
            return has(layer) && has(other) && places().indexOf(layer) < places().indexOf(other);
        }

        boolean own(int layer) {
            return !has(CHOICE) || outside(layer, CHOICE);
        }

        long layers() {
            return places().stream().filter(layer -> layer != NONE).count();
        }

        boolean isOne() {
            return places().stream().filter(layer -> layer != NONE).distinct().count() == layers();
        }

        int setOn(LayeredActs x) {
            return x.order(a, b, c, d);
        }
    }

    private static List<Order> allOfFour() {
        List<Order> all = new ArrayList<>();
        for (int i = 0; i < 5 * 5 * 5 * 5; i++) {
            all.add(new Order(i / 125 - 1, i / 25 % 5 - 1, i / 5 % 5 - 1, i % 5 - 1));
        }
        return all;
    }

    private static List<Order> allOrders() {
        return allOfFour().stream().filter(Order::isOne).toList();
    }

    private static void howManyLayers() {
        CHECK.sentence("four numbers, each a LAYER or NONE (left out), the first one outmost: how many LAYERS");
        for (Order order : allOrders()) {
            CHECK.equal(order.toString(), order.layers(), order.setOn(new LayeredActs()));
        }
        CHECK.equal("no layers", 0, new LayeredActs().order(NONE, NONE, NONE, NONE));
        CHECK.equal("all layers", 4, new LayeredActs().order(CHOICE, ERROR, LOG, STATE));
    }

    private static void anotherNumber() {
        CHECK.sentence("order: IllegalArgumentException: another number");
        for (int n : new int[] {-2, 4, 5, 31, 32, 33, 35, MIN, MAX}) {
            LayeredActs x = new LayeredActs();
            CHECK.failsArgument("order(" + n + ", ..)", () -> x.order(n, NONE, NONE, NONE));
            CHECK.failsArgument("order(-1, " + n + ", ..)", () -> x.order(NONE, n, NONE, NONE));
            CHECK.failsArgument("order(.., " + n + ", -1)", () -> x.order(NONE, NONE, n, NONE));
            CHECK.failsArgument("order(.., " + n + ")", () -> x.order(NONE, NONE, NONE, n));
            CHECK.failsArgument("order(" + n + ", 0, 1, 2)", () -> x.order(n, STATE, LOG, ERROR));
            CHECK.failsArgument("order(1, " + n + ", 2, 3)", () -> x.order(LOG, n, ERROR, CHOICE));
            CHECK.failsArgument("order(3, 2, " + n + ", 0)", () -> x.order(CHOICE, ERROR, n, STATE));
            CHECK.failsArgument("order(2, 3, 0, " + n + ")", () -> x.order(ERROR, CHOICE, STATE, n));
        }
    }

    private static void aLayerTwice() {
        CHECK.sentence("order: IllegalArgumentException: a LAYER twice");
        for (Order order : allOfFour()) {
            if (!order.isOne()) {
                CHECK.failsArgument(order.toString(), () -> order.setOn(new LayeredActs()));
            }
        }
    }

    private static void aRefusedOrder() {
        CHECK.sentence("A call that throws changes nothing (order)");
        LayeredActs x = Make.under(LOG, CHOICE, STATE, NONE);
        int acts = Make.seq(x, x.say(false, 1), x.write(false, 2));
        int fail = x.fail(false, 3);
        for (int n : new int[] {4, -2}) {
            CHECK.failsArgument("a wrong fourth", () -> x.order(STATE, LOG, ERROR, n));
            CHECK.failsArgument("a wrong first", () -> x.order(n, LOG, ERROR, CHOICE));
        }
        CHECK.failsArgument("one twice", () -> x.order(STATE, CHOICE, ERROR, STATE));
        CHECK.told("the order as it was", "5[1] |@2", x, acts);
        CHECK.failsState("without the layer that it had not", () -> x.run(fail, 0, 9));
    }

    private static void fromNowOn() {
        CHECK.sentence("The ORDER from now on");
        LayeredActs x = Make.under(STATE, LOG, CHOICE, ERROR);
        int acts = Make.seq(x, x.say(false, 1), x.write(false, 2));
        CHECK.told("own ones", "5@2[1] |", x, acts);
        x.order(CHOICE, LOG, STATE, ERROR);
        CHECK.equal("the latest run is as it was", "5@2[1] |", Told.latest(x, 1));
        CHECK.told("shared ones", "5 |@2[1]", x, acts);
        x.order(NONE, NONE, NONE, NONE);
        CHECK.equal("the latest run, no layers", "5 |@2[1]", Told.latest(x, 1));
        CHECK.failsState("no layers", () -> x.run(acts, 5, 9));
        x.order(LOG, NONE, STATE, NONE);
        CHECK.told("no choice", "5@2[1] |", x, acts);
    }

    private static void anActNeedsItsLayer() {
        CHECK.sentence("An act needs its LAYER to be in the ORDER; IllegalStateException: it needs a LAYER that is not in the ORDER");
        for (int bits = 0; bits < 16; bits++) {
            for (Way way : Way.ALL) {
                LayeredActs x = new LayeredActs();
                int one = x.give(false, 0);
                int term = way.make(x, one, one);
                x.order((bits & 1) == 0 ? NONE : STATE, (bits & 2) == 0 ? NONE : LOG, (bits & 4) == 0 ? NONE : ERROR,
                        (bits & 8) == 0 ? NONE : CHOICE);
                String what = way.name() + " with the layers " + bits;
                if ((way.needs() & ~bits) != 0) {
                    CHECK.failsState("run of " + what, () -> x.run(term, 0, 9));
                    CHECK.failsState("alike of " + what, () -> x.alike(term, one, 0, 9) ? 1 : 0);
                    CHECK.failsState("alike of another and " + what, () -> x.alike(one, term, 0, 9) ? 1 : 0);
                } else {
                    int answer = x.run(term, 0, 9);
                    CHECK.holds("run of " + what, answer == 0 || answer == 1 || answer == 2);
                    CHECK.holds("alike of " + what, x.alike(term, term, 0, 9));
                }
            }
        }
    }

    private static void aLayerOfAPartThatIsNotDone() {
        CHECK.sentence("it needs a LAYER (itself, or one that it is made of), be that DONE or not");
        LayeredActs x = new LayeredActs();
        int give = x.give(false, 1);
        int read = x.read();
        for (int t : new int[] {x.when(0, read, give), x.times(false, 0, read), x.times(false, 0, x.times(false, 0, read))}) {
            x.order(LOG, ERROR, CHOICE, NONE);
            CHECK.failsState("without it", () -> x.run(t, 0, 9));
            x.order(STATE, NONE, NONE, NONE);
            CHECK.equal("with it", 1, x.run(t, 0, 9));
        }
    }

    private static void stateOwnOrShared(Order order) {
        CHECK.sentence("STATE is OWN if there is no CHOICE in the ORDER, or STATE is OUTSIDE CHOICE. Else it is SHARED");
        LayeredActs x = new LayeredActs();
        int term = order.has(STATE) ? x.write(false, 6) : x.give(false, 6);
        order.setOn(x);
        CHECK.equal("run under " + order, 1, x.run(term, 5, 9));
        boolean own = order.has(STATE) && order.own(STATE);
        boolean shared = order.has(STATE) && !order.own(STATE);
        CHECK.equal("own under " + order, own ? 1 : 0, x.result(0, STATE_THERE));
        CHECK.equal("own state under " + order, own ? 6 : 0, x.result(0, STATE_TOLD));
        CHECK.equal("shared under " + order, shared ? 1 : 0, x.shared(STATE_THERE));
        CHECK.equal("shared state under " + order, shared ? 6 : 0, x.shared(STATE_TOLD));
        if (order.has(STATE) && order.has(CHOICE)) {
            CHECK.equal("two choices", 2, x.run(x.either(term, x.read()), 5, 9));
            CHECK.equal("what the second one reads under " + order, own ? 5 : 6, x.result(1, 0));
        }
    }

    private static void logOwnOrShared(Order order) {
        CHECK.sentence("The LOG is OWN or SHARED likewise");
        LayeredActs x = new LayeredActs();
        int term = order.has(LOG) ? x.say(false, 6) : x.give(false, 6);
        order.setOn(x);
        CHECK.equal("run under " + order, 1, x.run(term, 5, 9));
        boolean own = order.has(LOG) && order.own(LOG);
        boolean shared = order.has(LOG) && !order.own(LOG);
        CHECK.equal("own under " + order, own ? 1 : NONE, x.result(0, LOG_SIZE));
        CHECK.equal("shared under " + order, shared ? 1 : NONE, x.shared(LOG_SIZE));
        if (order.has(LOG) && order.has(CHOICE)) {
            CHECK.equal("two choices", 2, x.run(x.either(term, term), 5, 9));
            CHECK.equal("the second one's log under " + order, own ? 1 : 2, own ? x.result(1, LOG_SIZE) : x.shared(LOG_SIZE));
        }
    }

    private static void errorOwnOrShared(Order order) {
        CHECK.sentence("ERROR is OWN if there is no CHOICE, or ERROR is OUTSIDE CHOICE. Else it is SHARED");
        if (!order.has(ERROR)) {
            return;
        }
        LayeredActs x = new LayeredActs();
        int fail = x.fail(false, 6);
        order.setOn(x);
        CHECK.equal("run under " + order, order.own(ERROR) ? 1 : ENDED, x.run(fail, 5, 9));
        CHECK.equal("the number that ended it under " + order, order.own(ERROR) ? 0 : 6, x.shared(0));
        if (order.own(ERROR)) {
            CHECK.equal("its number under " + order, 6, x.result(0, 0));
            CHECK.equal("is an error under " + order, 1, x.result(0, ERROR_TOLD));
        } else {
            CHECK.failsOutside("no results under " + order, () -> x.result(0, 0));
        }
    }

    private static void whatAnErrorHas(Order order) {
        CHECK.sentence("an ERROR, and a RUN that a SHARED ERROR ended, has no STATE any more if STATE is OUTSIDE ERROR, no LOG likewise");
        if (!order.has(ERROR)) {
            return;
        }
        LayeredActs x = new LayeredActs();
        int write = order.has(STATE) ? x.write(false, 6) : x.give(false, 6);
        int say = order.has(LOG) ? x.say(false, 7) : x.give(false, 7);
        order.setOn(x);
        int answer = x.run(Make.seq(x, write, Make.seq(x, say, x.fail(false, 8))), 5, 9);
        boolean hasState = order.has(STATE) && !order.outside(STATE, ERROR);
        boolean hasLog = order.has(LOG) && !order.outside(LOG, ERROR);
        boolean ownState = answer == 1 && hasState && order.own(STATE);
        boolean ownLog = answer == 1 && hasLog && order.own(LOG);
        if (answer == 1) {
            CHECK.equal("the error's state under " + order, ownState ? 1 : 0, x.result(0, STATE_THERE));
            CHECK.equal("the error's state is under " + order, ownState ? 6 : 0, x.result(0, STATE_TOLD));
            CHECK.equal("the error's log under " + order, ownLog ? 1 : NONE, x.result(0, LOG_SIZE));
        }
        boolean sharedState = hasState && !order.own(STATE);
        CHECK.equal("the shared state under " + order, sharedState ? 1 : 0, x.shared(STATE_THERE));
        CHECK.equal("the shared state is under " + order, sharedState ? 6 : 0, x.shared(STATE_TOLD));
        CHECK.equal("the shared log under " + order, hasLog && !order.own(LOG) ? 1 : NONE, x.shared(LOG_SIZE));
    }

    private static void whatSavedBeginsWith(Order order) {
        CHECK.sentence("u begins with the STATE that was there when SAVED began, if STATE is OUTSIDE ERROR, else with what it is then");
        if (!order.has(ERROR)) {
            return;
        }
        LayeredActs x = new LayeredActs();
        order.setOn(x);
        int fail = x.fail(false, 8);
        if (order.has(STATE)) {
            int saved = x.saved(Make.seq(x, x.write(false, 7), fail), 0, x.read());
            CHECK.equal("run under " + order, 1, x.run(Make.seq(x, x.write(false, 6), saved), 5, 20));
            CHECK.equal("the state under " + order, order.outside(STATE, ERROR) ? 6 : 7, x.result(0, 0));
        }
        if (order.has(LOG)) {
            int say = x.say(false, 1);
            int saved = x.saved(Make.seq(x, say, fail), 0, x.say(true, 0));
            CHECK.equal("run under " + order, 1, x.run(x.as(1, Make.seq(x, say, saved)), 5, 20));
            CHECK.equal("the log's size under " + order, order.outside(LOG, ERROR) ? 2 : 3, x.result(0, 0));
        }
    }
}
