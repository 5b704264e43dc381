/** Orders, the limits of a run, and what is told of it: promises 15 and 17 to 20. */
public final class RunsTest {
    private static final int NONE = LayeredActs.NONE, ENDED = LayeredActs.ENDED, OUT = LayeredActs.OUT;
    private static final int STATE = 0, LOG = 1, ERROR = 2, CHOICE = 3;
    private static final int ONCE = 0, HIDDEN = 2;
    private static final Check CHECK = new Check("RunsTest");

    private RunsTest() {
    }

    public static void main(String[] args) {
        orders();
        wrongOrders();
        layersThatAreNeeded();
        steps();
        wrongSteps();
        aLogOfSixty();
        fiftyResults();
        fiftyResultsOfEachRound();
        fiftyResultsWithErrors();
        whatComesFirst();
        whatResultTells();
        whatSharedTells();
        theLatestRun();
        aRunThatIsOut();
        alike();
        alikeLooksAtAll();
        alikeIsNoRun();
        CHECK.end();
    }

    private static void orders() {
        LayeredActs x = new LayeredActs();
        CHECK.equal("order of none", 0, x.order(NONE, NONE, NONE, NONE));
        CHECK.equal("order of one", 1, x.order(NONE, NONE, LOG, NONE));
        CHECK.equal("order of two", 2, x.order(ERROR, NONE, NONE, STATE));
        CHECK.equal("order of three", 3, x.order(NONE, CHOICE, LOG, STATE));
        CHECK.equal("order of four", 4, x.order(CHOICE, LOG, ERROR, STATE));
        int write = x.write(false, 1);
        x.order(NONE, STATE, NONE, CHOICE);
        CHECK.told("state outside choice, with gaps", "5@1 |", x, write);
        x.order(CHOICE, NONE, NONE, STATE);
        CHECK.told("choice outside state, with gaps", "5 |@1", x, write);
        x.order(NONE, NONE, NONE, STATE);
        CHECK.told("state alone", "5@1 |", x, write);
    }

    private static void wrongOrders() {
        LayeredActs x = Make.under(STATE, NONE, NONE, NONE);
        for (int n : new int[] {-2, 4, Integer.MIN_VALUE, Integer.MAX_VALUE, 32, 35}) {
            CHECK.failsArgument("order(" + n + ", ..)", () -> x.order(n, NONE, NONE, NONE));
            CHECK.failsArgument("order(1, " + n + ", ..)", () -> x.order(LOG, n, NONE, NONE));
            CHECK.failsArgument("order(.., " + n + ", 1)", () -> x.order(NONE, NONE, n, LOG));
            CHECK.failsArgument("order(.., " + n + ")", () -> x.order(NONE, NONE, NONE, n));
        }
        for (int n = STATE; n <= CHOICE; n++) {
            int twice = n;
            CHECK.failsArgument("order(n, n, ..)", () -> x.order(twice, twice, NONE, NONE));
            CHECK.failsArgument("order(n, .., n)", () -> x.order(twice, NONE, NONE, twice));
            CHECK.failsArgument("order(.., n, n)", () -> x.order(NONE, NONE, twice, twice));
        }
        CHECK.told("a wrong order changes nothing", "5@5 |", x, x.read());
    }

    private static void layersThatAreNeeded() {
        LayeredActs x = new LayeredActs();
        int[] needing = {x.read(), x.say(false, 1), x.fail(false, 1), x.none()};
        int hiddenAway = x.when(0, x.give(false, 0), needing[STATE]);
        for (int missing = STATE; missing <= CHOICE; missing++) {
            int term = needing[missing];
            x.order(missing == 0 ? NONE : 0, missing == 1 ? NONE : 1, missing == 2 ? NONE : 2, missing == 3 ? NONE : 3);
            CHECK.failsState("run without layer " + missing, () -> x.run(term, 0, 10));
            CHECK.failsState("alike without layer " + missing, () -> x.alike(term, term, 0, 10) ? 1 : 0);
            x.order(missing, NONE, NONE, NONE);
            CHECK.equal("run with layer " + missing + " alone", missing == CHOICE ? 0 : 1, x.run(term, 0, 10));
        }
        x.order(LOG, NONE, NONE, NONE);
        CHECK.failsState("a layer of a part that is not done", () -> x.run(hiddenAway, 0, 10));
    }

    private static void steps() {
        LayeredActs x = Make.under(CHOICE, ERROR, NONE, NONE);
        int give = x.give(false, 1);
        CHECK.equal("one step", 1, x.run(give, 0, 1));
        CHECK.equal("one step spent", 1, x.shared(1));
        int either = x.either(give, give);
        CHECK.equal("three steps of two", OUT, x.run(either, 0, 2));
        CHECK.equal("three steps of three", 2, x.run(either, 0, 3));
        CHECK.equal("three steps spent", 3, x.shared(1));
        CHECK.equal("three steps spent of more", 2, x.run(either, 0, 2000));
        CHECK.equal("still three", 3, x.shared(1));
        CHECK.equal("a step for each result", 6, spent(x, x.then(either, 0, x.none())));
        CHECK.equal("times", 4, spent(x, x.times(false, 3, give)));
        CHECK.equal("as", 4, spent(x, x.as(ONCE, either)));
        int failed = x.either(x.fail(false, 2), either);
        CHECK.equal("a shared error", ENDED, x.run(failed, 0, 2));
        CHECK.equal("its steps", 2, x.shared(1));
        CHECK.equal("saved", 4, spent(x, x.saved(failed, 0, give)));
        CHECK.equal("saved, out", OUT, x.run(x.saved(failed, 0, give), 0, 3));
        int many = x.times(false, 8, x.times(false, 8, x.times(false, 8, give)));
        CHECK.equal("steps of nested times", 1 + 8 * (1 + 8 * (1 + 8)), spent(x, many));
        CHECK.equal("585 steps of 585", 1, x.run(many, 0, 585));
        CHECK.equal("585 steps of 584", OUT, x.run(many, 0, 584));
        int more = x.times(false, 3, many);
        CHECK.equal("1756 steps", 1756, spent(x, more));
        CHECK.equal("2342 steps", OUT, x.run(x.times(false, 4, many), 0, 2000));
    }

    private static int spent(LayeredActs x, int term) {
        x.run(term, 0, 2000);
        return x.shared(1);
    }

    private static void wrongSteps() {
        LayeredActs x = new LayeredActs();
        int give = x.give(false, 1);
        for (int n : new int[] {0, -1, 2001, Integer.MIN_VALUE, Integer.MAX_VALUE}) {
            CHECK.failsArgument("run with " + n + " steps", () -> x.run(give, 0, n));
            CHECK.failsArgument("alike with " + n + " steps", () -> x.alike(give, give, 0, n) ? 1 : 0);
        }
        CHECK.failsOutside("no run yet", () -> x.result(0, 0));
        CHECK.failsOutside("run of no term", () -> x.run(1, 0, 1));
        CHECK.failsOutside("run of term -1", () -> x.run(-1, 0, 1));
        CHECK.failsOutside("alike of no term", () -> x.alike(1, 0, 0, 1) ? 1 : 0);
        CHECK.failsOutside("alike of term -1", () -> x.alike(0, -1, 0, 1) ? 1 : 0);
    }

    private static void aLogOfSixty() {
        LayeredActs x = Make.under(LOG, CHOICE, ERROR, NONE);
        int say = x.say(false, 3);
        int four = x.times(false, 4, say);
        int sixty = Make.seq(x, x.times(false, 7, x.times(false, 8, say)), four);
        CHECK.equal("sixty numbers", 1, x.run(sixty, 0, 2000));
        CHECK.equal("their count", 60, x.result(0, 4));
        CHECK.equal("the sixtieth", 3, x.result(0, 64));
        CHECK.failsArgument("the sixty-first", () -> x.result(0, 65));
        CHECK.equal("sixty-one", OUT, x.run(Make.seq(x, sixty, say), 0, 2000));
        CHECK.equal("not saved", OUT, x.run(x.saved(Make.seq(x, sixty, say), 0, say), 0, 2000));
        CHECK.equal("sixty each", 2, x.run(x.either(sixty, sixty), 0, 2000));
        CHECK.equal("sixty hidden, and sixty", 1, x.run(Make.seq(x, x.as(HIDDEN, sixty), sixty), 0, 2000));
        x.order(CHOICE, LOG, NONE, NONE);
        CHECK.equal("sixty, shared", 1, x.run(sixty, 0, 2000));
        CHECK.equal("their count, shared", 60, x.shared(4));
        CHECK.equal("the sixtieth, shared", 3, x.shared(64));
        CHECK.failsArgument("the sixty-first, shared", () -> x.shared(65));
        CHECK.equal("sixty-one, shared", OUT, x.run(x.either(sixty, say), 0, 2000));
    }

    /** As many results as n says, at most 64 or so. */
    private static int results(LayeredActs x, int n) {
        int one = x.give(false, 1);
        int all = n % 2 == 1 ? one : x.none();
        int power = one;
        for (int bit = 2; bit <= n; bit *= 2) {
            power = x.either(power, power);
            all = (n & bit) != 0 ? x.either(all, power) : all;
        }
        return all;
    }

    private static void fiftyResults() {
        LayeredActs x = Make.under(CHOICE, NONE, NONE, NONE);
        int one = x.give(false, 4);
        int fifty = results(x, 50);
        CHECK.equal("fifty", 50, x.run(fifty, 0, 2000));
        CHECK.equal("the fiftieth", 1, x.result(49, 0));
        CHECK.failsOutside("the fifty-first", () -> x.result(50, 0));
        CHECK.equal("fifty and none", 50, x.run(x.either(fifty, x.none()), 0, 2000));
        CHECK.equal("fifty-one", OUT, x.run(x.either(fifty, one), 0, 2000));
        CHECK.equal("fifty-one, but once", OUT, x.run(x.as(ONCE, x.either(fifty, one)), 0, 2000));
        CHECK.equal("fifty each alone", 50, x.run(Make.seq(x, fifty, one), 0, 2000));
        CHECK.equal("fifty, once each", 2, x.run(x.either(x.as(ONCE, fifty), x.as(ONCE, fifty)), 0, 2000));
        CHECK.equal("fifty, none for each", 0, x.run(Make.seq(x, fifty, x.none()), 0, 2000));
        LayeredActs y = Make.under(CHOICE, NONE, NONE, NONE);
        int ten = results(y, 10);
        int five = results(y, 5);
        CHECK.equal("ten times five", 50, y.run(Make.seq(y, ten, five), 0, 2000));
        CHECK.equal("five times ten", 50, y.run(Make.seq(y, five, ten), 0, 2000));
        CHECK.equal("ten times six", OUT, y.run(Make.seq(y, ten, y.either(five, y.give(false, 1))), 0, 2000));
    }

    private static void fiftyResultsOfEachRound() {
        LayeredActs x = Make.under(STATE, CHOICE, NONE, NONE);
        int seven = results(x, 7);
        CHECK.equal("two rounds of seven", 49, x.run(x.times(false, 2, seven), 0, 2000));
        CHECK.equal("three rounds of seven", OUT, x.run(x.times(false, 3, seven), 0, 2000));
        // The state counts the rounds; the third has no results, but the second has 64.
        int eight = x.either(seven, x.give(false, 1));
        int next = x.then(x.read(), 0, x.then(x.give(false, 1), 1, x.then(x.of(0, 1, 0), 2, x.write(true, 2))));
        int last = x.then(x.give(false, 2), 3, x.of(3, 0, 3));
        int round = x.then(next, 0, x.then(last, 4, x.when(4, x.none(), eight)));
        CHECK.equal("a first round", 8, x.run(x.times(false, 1, round), 1, 2000));
        CHECK.equal("a second round", OUT, x.run(x.times(false, 2, round), 1, 2000));
        CHECK.equal("a last round of two", 0, x.run(x.times(false, 2, round), 2, 2000));
        CHECK.equal("a last round of three", OUT, x.run(x.times(false, 3, round), 1, 2000));
    }

    private static void fiftyResultsWithErrors() {
        LayeredActs x = Make.under(ERROR, CHOICE, NONE, NONE);
        int numbers = results(x, 20);
        int error = x.fail(false, 1);
        int errors = Make.seq(x, results(x, 10), error);
        int two = results(x, 2);
        CHECK.equal("40 and 10 errors", 50, x.run(Make.seq(x, x.either(numbers, errors), two), 0, 2000));
        int more = x.either(x.either(numbers, errors), error);
        CHECK.equal("40 and 11 errors", OUT, x.run(Make.seq(x, more, two), 0, 2000));
        CHECK.equal("11 errors and 40", OUT, x.run(Make.seq(x, x.either(errors, x.either(error, numbers)), two), 0, 2000));
        CHECK.equal("20 and 22 saved", 42, x.run(x.saved(more, 0, two), 0, 2000));
        int three = results(x, 3);
        CHECK.equal("20 and 30 saved", 50, x.run(x.saved(x.either(numbers, errors), 0, three), 0, 2000));
        CHECK.equal("20 and 33 saved", OUT, x.run(x.saved(more, 0, three), 0, 2000));
    }

    private static void whatComesFirst() {
        LayeredActs x = Make.under(CHOICE, STATE, ERROR, NONE);
        int ten = results(x, 10);
        int six = x.either(results(x, 5), x.give(false, 1));
        // Fails when the state, which counts down, is 0.
        int less = x.then(x.read(), 0, x.then(x.give(false, 1), 1, x.then(x.of(0, 1, 1), 2, x.write(true, 2))));
        int part = x.then(less, 0, x.when(0, six, x.fail(false, 8)));
        int all = x.then(ten, 3, part);
        CHECK.equal("too many, ahead of an error", OUT, x.run(all, 9, 2000));
        CHECK.equal("an error, ahead of too many", ENDED, x.run(all, 8, 2000));
        CHECK.equal("not when it is saved", OUT, x.run(x.saved(all, 0, ten), 9, 2000));
        CHECK.equal("when the error is saved", 10, x.run(x.saved(all, 0, ten), 8, 2000));
    }

    private static void whatResultTells() {
        LayeredActs x = new LayeredActs();
        int said = Make.seq(x, x.say(false, 11), Make.seq(x, x.say(false, 12), x.write(false, 6)));
        int failed = x.either(said, x.fail(false, 13));
        x.order(ERROR, STATE, LOG, CHOICE);
        CHECK.equal("two results", 2, x.run(failed, 5, 100));
        int[] wanted = {5, 0, 1, 6, 2, 11, 12};
        for (int what = 0; what < wanted.length; what++) {
            CHECK.equal("result(0, " + what + ")", wanted[what], x.result(0, what));
        }
        int[] ofError = {13, 1, 1, 5, 0};
        for (int what = 0; what < ofError.length; what++) {
            CHECK.equal("result(1, " + what + ")", ofError[what], x.result(1, what));
        }
        for (int what : new int[] {-1, 7, Integer.MIN_VALUE, Integer.MAX_VALUE}) {
            CHECK.failsArgument("result(0, " + what + ")", () -> x.result(0, what));
        }
        CHECK.failsArgument("result(1, 5)", () -> x.result(1, 5));
        for (int k : new int[] {-1, 2, 50, Integer.MIN_VALUE, Integer.MAX_VALUE}) {
            CHECK.failsOutside("result(" + k + ", 0)", () -> x.result(k, 0));
            CHECK.failsOutside("result(" + k + ", -1)", () -> x.result(k, -1));
        }
        x.order(STATE, LOG, ERROR, CHOICE);
        x.run(failed, 5, 100);
        int[] gone = {13, 1, 0, 0, NONE};
        for (int what = 0; what < gone.length; what++) {
            CHECK.equal("result(1, " + what + "), gone", gone[what], x.result(1, what));
        }
        CHECK.failsArgument("result(1, 5), gone", () -> x.result(1, 5));
    }

    private static void whatSharedTells() {
        LayeredActs x = new LayeredActs();
        int said = Make.seq(x, x.say(false, 11), Make.seq(x, x.say(false, 12), x.write(false, 6)));
        int failed = x.either(said, x.fail(false, 13));
        x.order(CHOICE, ERROR, STATE, LOG);
        CHECK.equal("ended", ENDED, x.run(failed, 5, 100));
        int[] wanted = {13, 7, 1, 6, 2, 11, 12};
        for (int what = 0; what < wanted.length; what++) {
            CHECK.equal("shared(" + what + ")", wanted[what], x.shared(what));
        }
        for (int what : new int[] {-1, 7, Integer.MIN_VALUE, Integer.MAX_VALUE}) {
            CHECK.failsArgument("shared(" + what + ")", () -> x.shared(what));
        }
        CHECK.failsOutside("result(0, 0) of one that was ended", () -> x.result(0, 0));
        x.order(CHOICE, STATE, LOG, ERROR);
        x.run(failed, 5, 100);
        int[] gone = {13, 7, 0, 0, NONE};
        for (int what = 0; what < gone.length; what++) {
            CHECK.equal("shared(" + what + "), gone", gone[what], x.shared(what));
        }
        CHECK.failsArgument("shared(5), gone", () -> x.shared(5));
        x.order(ERROR, STATE, LOG, CHOICE);
        x.run(failed, 5, 100);
        int[] own = {0, 7, 0, 0, NONE};
        for (int what = 0; what < own.length; what++) {
            CHECK.equal("shared(" + what + "), own", own[what], x.shared(what));
        }
        int give = x.give(false, 3);
        x.order(CHOICE, NONE, NONE, NONE);
        CHECK.told("no such layers", "3 |", x, give);
        CHECK.equal("no error", 0, x.shared(0));
    }

    private static void theLatestRun() {
        LayeredActs x = Make.under(STATE, CHOICE, LOG, NONE);
        int acts = Make.seq(x, x.say(false, 1), x.write(false, 2));
        String told = Told.run(x, acts);
        CHECK.equal("the run", "5@2 |[1]", told);
        x.order(CHOICE, LOG, STATE, ERROR);
        CHECK.equal("behind another order", told, Told.latest(x, 1));
        x.order(NONE, NONE, NONE, NONE);
        CHECK.equal("behind an order of none", told, Told.latest(x, 1));
        CHECK.failsState("a run that needs layers", () -> x.run(acts, 0, 10));
        CHECK.failsArgument("a run of no steps", () -> x.run(acts, 0, 0));
        CHECK.failsOutside("a run of no term", () -> x.run(99, 0, 10));
        x.give(false, 1);
        CHECK.equal("behind calls that threw", told, Told.latest(x, 1));
        CHECK.equal("behind another run", "1 |", Told.run(x, x.terms() - 1));
    }

    private static void aRunThatIsOut() {
        LayeredActs x = Make.under(CHOICE, NONE, NONE, NONE);
        int give = x.give(false, 1);
        int two = x.either(give, give);
        CHECK.equal("a run", 2, x.run(two, 0, 3));
        CHECK.equal("one that is out", OUT, x.run(two, 0, 2));
        CHECK.failsOutside("result of it", () -> x.result(0, 0));
        CHECK.failsOutside("result of it, wrong", () -> x.result(0, -1));
        CHECK.failsState("shared of it", () -> x.shared(1));
        CHECK.failsState("shared of it, wrong", () -> x.shared(-1));
        CHECK.equal("a run again", 2, x.run(two, 0, 3));
        CHECK.equal("its result", 1, x.result(1, 0));
        CHECK.equal("a run without results", 0, x.run(x.none(), 0, 3));
        CHECK.failsOutside("result of none", () -> x.result(0, 0));
        CHECK.equal("its steps", 1, x.shared(1));
    }

    private static void same(String what, boolean want, LayeredActs x, int t, int u) {
        CHECK.equal(what, want ? 1 : 0, x.alike(t, u, 5, 20) ? 1 : 0);
        CHECK.equal(what + ", turned", want ? 1 : 0, x.alike(u, t, 5, 20) ? 1 : 0);
    }

    private static void alike() {
        LayeredActs x = Make.under(STATE, ERROR, NONE, NONE);
        int read = x.read();
        int failed = x.fail(false, 1);
        int writes = Make.seq(x, x.write(false, 9), failed);
        same("a term and itself", true, x, read, read);
        same("steps may differ", true, x, read, Make.seq(x, read, read));
        same("the state that is lost", true, x, writes, failed);
        same("from the same state", true, x, read, x.give(false, 5));
        CHECK.holds("from another state", !x.alike(read, x.terms() - 1, 6, 20));
        x.order(ERROR, STATE, NONE, NONE);
        same("the state that is kept", false, x, writes, failed);
        int many = x.times(false, 8, read);
        CHECK.holds("steps enough", x.alike(many, read, 5, 9));
        CHECK.holds("one is out", !x.alike(many, read, 5, 8));
        CHECK.holds("the other is out", !x.alike(read, many, 5, 8));
        CHECK.holds("both are out", !x.alike(many, many, 5, 8));
        int say = x.say(false, 1);
        CHECK.failsState("one needs a layer", () -> x.alike(say, read, 0, 9) ? 1 : 0);
        CHECK.failsState("the other needs a layer", () -> x.alike(read, say, 0, 9) ? 1 : 0);
    }

    private static void alikeLooksAtAll() {
        LayeredActs x = new LayeredActs();
        int one = x.give(false, 1);
        int two = x.give(false, 2);
        int fail = x.fail(false, 1);
        int failTwo = x.fail(false, 2);
        int say = Make.seq(x, x.say(false, 1), one);
        int sayTwo = Make.seq(x, x.say(false, 2), one);
        int write = Make.seq(x, x.write(false, 1), one);
        int[][] orders = {{ERROR, STATE, LOG, CHOICE}, {CHOICE, ERROR, STATE, LOG}, {ERROR, CHOICE, LOG, STATE}};
        int[] terms = {one, two, fail, failTwo, say, sayTwo, write, x.none(), x.either(one, one), Make.seq(x, say, fail),
            Make.seq(x, write, fail), Make.seq(x, say, say), Make.seq(x, sayTwo, say), x.either(one, two), x.either(two, one)};
        for (int[] order : orders) {
            x.order(order[0], order[1], order[2], order[3]);
            for (int i = 0; i < terms.length; i++) {
                for (int j = 0; j < terms.length && i <= 2; j++) {
                    same("terms " + i + " and " + j, i == j, x, terms[i], terms[j]);
                }
                same("term " + i + " and itself", true, x, terms[i], terms[i]);
            }
        }
        same("logs of one length", false, x, say, sayTwo);
        same("logs of two lengths", false, x, say, Make.seq(x, say, say));
        x.order(CHOICE, ERROR, STATE, LOG);
        same("ended, with other logs", false, x, Make.seq(x, say, fail), Make.seq(x, sayTwo, fail));
        same("ended, with other states", false, x, fail, Make.seq(x, write, fail));
        x.order(CHOICE, STATE, LOG, ERROR);
        same("ended, with logs that are lost", true, x, Make.seq(x, say, fail), Make.seq(x, sayTwo, fail));
        same("ended, with states that are lost", true, x, fail, Make.seq(x, write, fail));
        same("ended or not", false, x, x.none(), fail);
    }

    private static void alikeIsNoRun() {
        LayeredActs x = Make.under(STATE, CHOICE, LOG, ERROR);
        int give = x.give(false, 1);
        CHECK.holds("alike without a run", x.alike(give, give, 0, 9));
        CHECK.failsOutside("result of no run", () -> x.result(0, 0));
        CHECK.failsState("shared of no run", () -> x.shared(0));
        int acts = x.either(Make.seq(x, x.say(false, 8), x.write(false, 2)), Make.seq(x, x.say(false, 9), x.write(false, 3)));
        String told = Told.run(x, acts);
        CHECK.equal("a run", "5@2 5@3 |[8,9]", told);
        int others = x.either(x.say(false, 3), Make.seq(x, x.say(false, 4), x.fail(false, 1)));
        x.alike(others, give, 7, 99);
        x.alike(give, acts, 7, 3);
        CHECK.equal("the run behind alike", told, Told.latest(x, 2));
        CHECK.equal("its steps", 7, x.shared(1));
        x.run(acts, 0, 3);
        x.alike(give, give, 7, 99);
        CHECK.failsState("out, behind alike", () -> x.shared(0));
    }
}
