/** Which terms are told alike: promise 20. */
public final class AlikeTest {
    private static final int NONE = LayeredActs.NONE, OUT = LayeredActs.OUT;
    private static final int STATE = 0, LOG = 1, ERROR = 2, CHOICE = 3;
    private static final int MIN = Integer.MIN_VALUE, MAX = Integer.MAX_VALUE;
    private static final Check CHECK = new Check("AlikeTest");

    private AlikeTest() {
    }

    public static void main(String[] args) {
        fromTheSameState();
        theSameResults();
        theSameUpToTheFiftieth();
        theSameLogsUpToTheSixtieth();
        bothEndedOrNot();
        byTheSameNumber();
        theSameSharedStateAndLog();
        whatIsLostIsNotTold();
        stepsMayDiffer();
        falseIfOneIsOut();
        eachRunHasItsOwnSteps();
        eachPairOfTerms();
        noRunThatIsToldOf();
        noSuchTerm();
        wrongSteps();
        layersThatAreMissing();
        CHECK.end();
    }

    private static void same(String what, boolean want, LayeredActs x, int t, int u) {
        CHECK.equal(what, want ? 1 : 0, x.alike(t, u, 5, 2000) ? 1 : 0);
        CHECK.equal(what + ", turned", want ? 1 : 0, x.alike(u, t, 5, 2000) ? 1 : 0);
    }

    private static void fromTheSameState() {
        CHECK.sentence("run one after the other from the same STATE");
        for (int shared = 0; shared <= 1; shared++) {
            LayeredActs x = Make.under(shared == 1 ? CHOICE : NONE, STATE, NONE, NONE);
            int read = x.read();
            int five = x.give(false, 5);
            same("a term and itself", true, x, read, read);
            same("what it was at first", true, x, read, five);
            int write = Make.seq(x, x.write(false, 6), read);
            same("one that writes, and itself", true, x, write, write);
            same("one that writes, and another", false, x, write, read);
            CHECK.holds("from another state", !x.alike(read, five, 6, 20));
            for (int n : new int[] {0, MIN, MAX}) {
                CHECK.holds("from " + n, x.alike(read, x.give(false, n), n, 20));
            }
        }
    }

    private static void theSameResults() {
        CHECK.sentence("the same RESULTS (in all that result() tells)");
        LayeredActs x = Make.under(ERROR, STATE, LOG, CHOICE);
        int one = x.give(false, 1);
        int two = x.give(false, 2);
        int none = x.none();
        same("no results", true, x, none, x.either(none, none));
        same("no results and one", false, x, none, one);
        same("one and two of them", false, x, one, x.either(one, one));
        same("other numbers", false, x, one, two);
        same("another order of them", false, x, x.either(one, two), x.either(two, one));
        same("a number and an error", false, x, one, x.fail(false, 1));
        same("errors of other numbers", false, x, x.fail(false, 1), x.fail(false, 2));
        same("other states", false, x, Make.seq(x, x.write(false, 1), one), one);
        same("logs of one and none", false, x, Make.seq(x, x.say(false, 1), one), one);
        same("logs of one number each", false, x, Make.seq(x, x.say(false, 1), one), Make.seq(x, x.say(false, 2), one));
        same("an error's state", false, x, Make.seq(x, x.write(false, 1), x.fail(false, 1)), x.fail(false, 1));
        same("an error's log", false, x, Make.seq(x, x.say(false, 1), x.fail(false, 1)), x.fail(false, 1));
    }

    private static void theSameUpToTheFiftieth() {
        CHECK.sentence("the same RESULTS (all of them)");
        LayeredActs x = Make.under(ERROR, STATE, CHOICE, NONE);
        int many = Make.results(x, 49);
        int one = x.give(false, 1);
        int fifty = x.either(many, one);
        same("fifty", true, x, fifty, x.either(one, many));
        same("49 and fifty", false, x, many, fifty);
        same("another number at last", false, x, fifty, x.either(many, x.give(false, 2)));
        same("another number at first", false, x, fifty, x.either(x.give(false, 2), many));
        same("an error at last", false, x, fifty, x.either(many, x.fail(false, 1)));
        int wrote = Make.seq(x, x.write(false, 6), one);
        same("another state at last", false, x, fifty, x.either(many, wrote));
        same("another state at first", false, x, fifty, x.either(wrote, many));
    }

    private static void theSameLogsUpToTheSixtieth() {
        CHECK.sentence("in all that result() tells; the same SHARED LOG (to its end)");
        LayeredActs x = new LayeredActs();
        int say = x.say(false, 1);
        int other = x.say(false, 2);
        int give = x.give(false, 7);
        int most = Make.seq(x, x.times(false, 7, x.times(false, 8, say)), x.times(false, 3, say));
        int sixty = Make.seq(x, Make.seq(x, most, say), give);
        int lastOther = Make.seq(x, Make.seq(x, most, other), give);
        int firstOther = Make.seq(x, Make.seq(x, other, most), give);
        int less = Make.seq(x, most, give);
        for (int shared = 0; shared <= 1; shared++) {
            x.order(shared == 1 ? CHOICE : LOG, shared == 1 ? LOG : CHOICE, NONE, NONE);
            same("sixty", true, x, sixty, Make.seq(x, Make.seq(x, say, most), give));
            same("another one at last", false, x, sixty, lastOther);
            same("another one at first", false, x, sixty, firstOther);
            same("one less", false, x, sixty, less);
        }
    }

    private static void bothEndedOrNot() {
        CHECK.sentence("both ENDED or not");
        LayeredActs x = Make.under(CHOICE, ERROR, NONE, NONE);
        int zero = x.fail(false, 0);
        same("both", true, x, zero, Make.seq(x, x.give(false, 1), zero));
        same("one, the other has no results", false, x, zero, x.none());
        same("one, the other has a result", false, x, zero, x.give(false, 0));
        same("one that is saved", true, x, x.saved(zero, 0, x.give(false, 3)), x.give(false, 3));
    }

    private static void byTheSameNumber() {
        CHECK.sentence("both ENDED or not, by the same number");
        LayeredActs x = Make.under(CHOICE, ERROR, NONE, NONE);
        same("the same", true, x, x.fail(false, 4), x.fail(false, 4));
        same("another", false, x, x.fail(false, 4), x.fail(false, 5));
        same("MIN and MAX", false, x, x.fail(false, MIN), x.fail(false, MAX));
        same("0 and another", false, x, x.fail(false, 0), x.fail(false, 1));
    }

    private static void theSameSharedStateAndLog() {
        CHECK.sentence("the same SHARED STATE and LOG");
        LayeredActs x = Make.under(CHOICE, ERROR, STATE, LOG);
        int one = x.give(false, 1);
        int none = x.none();
        int failed = x.fail(false, 1);
        for (int last : new int[] {one, none, failed}) {
            int wrote = Make.seq(x, x.write(false, 6), last);
            int said = Make.seq(x, x.say(false, 6), last);
            same("another state", false, x, last, wrote);
            same("another log", false, x, last, said);
            same("a state and itself", true, x, wrote, wrote);
            same("a log and itself", true, x, said, said);
            same("another number in the log", false, x, said, Make.seq(x, x.say(false, 7), last));
        }
    }

    private static void whatIsLostIsNotTold() {
        CHECK.sentence("told alike (what is gone is not told)");
        LayeredActs x = new LayeredActs();
        int failed = x.fail(false, 1);
        int wrote = Make.seq(x, x.write(false, 6), failed);
        int said = Make.seq(x, x.say(false, 6), failed);
        x.order(STATE, LOG, ERROR, NONE);
        same("a state that is lost", true, x, failed, wrote);
        same("a log that is lost", true, x, failed, said);
        x.order(CHOICE, STATE, LOG, ERROR);
        same("a shared state that is lost", true, x, failed, wrote);
        same("a shared log that is lost", true, x, failed, said);
        x.order(STATE, LOG, CHOICE, ERROR);
        same("own ones of a run that ended", true, x, wrote, said);
        x.order(ERROR, STATE, LOG, NONE);
        same("a state that is kept", false, x, failed, wrote);
        same("a log that is kept", false, x, failed, said);
    }

    private static void stepsMayDiffer() {
        CHECK.sentence("STEPS spent may differ");
        LayeredActs x = Make.under(CHOICE, ERROR, NONE, NONE);
        int one = x.give(false, 1);
        same("one and nine", true, x, one, x.times(false, 8, one));
        same("three and four", true, x, x.either(one, one), x.times(false, 1, x.either(one, one)));
        same("ended behind one and two", true, x, x.fail(false, 1), x.times(false, 1, x.fail(false, 1)));
    }

    private static void falseIfOneIsOut() {
        CHECK.sentence("false if one is OUT");
        LayeredActs x = Make.under(CHOICE, LOG, NONE, NONE);
        int one = x.give(false, 1);
        int nine = x.times(false, 8, one);
        CHECK.holds("steps enough", x.alike(nine, one, 5, 9));
        CHECK.holds("one is out", !x.alike(nine, one, 5, 8));
        CHECK.holds("the other is out", !x.alike(one, nine, 5, 8));
        CHECK.holds("both are out", !x.alike(nine, nine, 5, 8));
        CHECK.holds("one step, and one spent", x.alike(one, one, 5, 1));
        CHECK.holds("one step, and two spent", !x.alike(one, x.times(false, 1, one), 5, 1));
        int many = x.times(false, 6, x.either(one, one));
        same("more than fifty results", false, x, many, many);
        int longLog = Make.seq(x, Make.sixty(x, x.say(false, 1)), x.say(false, 1));
        same("more than sixty numbers", false, x, longLog, longLog);
    }

    private static void eachRunHasItsOwnSteps() {
        CHECK.sentence("with the same STEPS (each of the two)");
        LayeredActs x = Make.under(NONE, NONE, NONE, NONE);
        int one = x.give(false, 1);
        int many = x.times(false, 3, x.times(false, 8, x.times(false, 8, x.times(false, 8, one))));
        CHECK.holds("1756 each, of 2000", x.alike(many, many, 0, 2000));
        CHECK.holds("1756 each, of 1756", x.alike(many, many, 0, 1756));
        CHECK.holds("1756 each, of 1755", !x.alike(many, many, 0, 1755));
    }

    private static void eachPairOfTerms() {
        CHECK.sentence("Whether two TERMS are told alike");
        int[][] orders = {{ERROR, STATE, LOG, CHOICE}, {CHOICE, ERROR, STATE, LOG}, {ERROR, CHOICE, LOG, STATE}};
        for (int[] order : orders) {
            LayeredActs x = Make.under(order[0], order[1], order[2], order[3]);
            int one = x.give(false, 1);
            int two = x.give(false, 2);
            int say = Make.seq(x, x.say(false, 1), one);
            int sayTwo = Make.seq(x, x.say(false, 2), one);
            int write = Make.seq(x, x.write(false, 1), one);
            int[] terms = {one, two, say, sayTwo, write, x.none(), x.either(one, one), x.fail(false, 1), x.fail(false, 2),
                Make.seq(x, say, 0), Make.seq(x, say, x.fail(false, 1)), Make.seq(x, sayTwo, say), x.either(one, two), x.either(two, one)};
            // The tenth is as the third: a log of 1 with the result 1.
            for (int i = 0; i < terms.length; i++) {
                for (int j = i; j < terms.length; j++) {
                    same("terms " + i + " and " + j, i == j || i == 2 && j == 9, x, terms[i], terms[j]);
                }
            }
        }
    }

    private static void noRunThatIsToldOf() {
        CHECK.sentence("(This is no RUN that result(), shared() tell of.)");
        LayeredActs x = Make.under(STATE, CHOICE, LOG, ERROR);
        int give = x.give(false, 1);
        CHECK.holds("alike without a run", x.alike(give, give, 0, 9));
        CHECK.failsOutside("result of no run", () -> x.result(0, 0));
        CHECK.failsState("shared of no run", () -> x.shared(0));
        int acts = x.either(Make.seq(x, x.say(false, 8), x.write(false, 2)), Make.seq(x, x.say(false, 9), x.write(false, 3)));
        String told = Told.run(x, acts);
        CHECK.equal("a run", "5@2 5@3 |[8,9]", told);
        int ends = x.either(x.say(false, 3), Make.seq(x, x.say(false, 4), x.fail(false, 1)));
        x.alike(ends, give, 7, 99);
        CHECK.equal("behind one that ended", told, Told.latest(x, 2));
        x.alike(give, acts, 7, 3);
        CHECK.equal("behind one that was out", told, Told.latest(x, 2));
        x.alike(give, x.none(), 7, 3);
        CHECK.equal("behind one without results", told, Told.latest(x, 2));
        CHECK.equal("its steps", 7, x.shared(1));
        CHECK.equal("one that is out", OUT, x.run(acts, 0, 3));
        x.alike(give, give, 7, 99);
        CHECK.failsState("shared behind it", () -> x.shared(0));
        CHECK.failsOutside("result behind it", () -> x.result(0, 0));
    }

    private static void noSuchTerm() {
        CHECK.sentence("alike: IndexOutOfBoundsException");
        LayeredActs x = new LayeredActs();
        x.give(false, 1);
        x.give(false, 1);
        for (int t : new int[] {-1, 2, 79, 80, MIN, MAX}) {
            CHECK.failsOutside("alike(" + t + ", 0, ..)", () -> x.alike(t, 0, 0, 9) ? 1 : 0);
            CHECK.failsOutside("alike(0, " + t + ", ..)", () -> x.alike(0, t, 0, 9) ? 1 : 0);
            CHECK.failsOutside("alike(" + t + ", " + t + ", ..)", () -> x.alike(t, t, 0, 9) ? 1 : 0);
        }
        CHECK.holds("the last and the first", x.alike(1, 0, 0, 9));
    }

    private static void wrongSteps() {
        CHECK.sentence("alike: IllegalArgumentException: steps");
        LayeredActs x = new LayeredActs();
        int give = x.give(false, 1);
        for (int n : new int[] {0, -1, 2001, MIN, MAX}) {
            CHECK.failsArgument("alike with " + n + " steps", () -> x.alike(give, give, 0, n) ? 1 : 0);
        }
        for (int n : new int[] {1, 2, 1999, 2000}) {
            CHECK.holds("alike with " + n + " steps", x.alike(give, give, 0, n));
        }
    }

    private static void layersThatAreMissing() {
        CHECK.sentence("alike: IllegalStateException: LAYERS");
        LayeredActs x = Make.under(STATE, NONE, NONE, NONE);
        int read = x.read();
        int say = x.say(false, 1);
        CHECK.failsState("one needs it", () -> x.alike(say, read, 0, 9) ? 1 : 0);
        CHECK.failsState("the other needs it", () -> x.alike(read, say, 0, 9) ? 1 : 0);
        CHECK.failsState("both need it", () -> x.alike(say, say, 0, 9) ? 1 : 0);
        int nine = x.times(false, 8, read);
        CHECK.failsState("the other needs it, and one would be out", () -> x.alike(nine, say, 0, 2) ? 1 : 0);
        x.order(LOG, NONE, NONE, NONE);
        CHECK.failsState("under another order", () -> x.alike(read, say, 0, 9) ? 1 : 0);
        x.order(LOG, STATE, NONE, NONE);
        CHECK.holds("under both", !x.alike(read, say, 0, 9));
    }
}
