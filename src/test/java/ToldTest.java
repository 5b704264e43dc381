/** What is told of the latest run: promises 18 and 19. */
public final class ToldTest {
    private static final int NONE = LayeredActs.NONE, ENDED = LayeredActs.ENDED, OUT = LayeredActs.OUT;
    private static final int STATE = 0, LOG = 1, ERROR = 2, CHOICE = 3;
    private static final int MIN = Integer.MIN_VALUE, MAX = Integer.MAX_VALUE;
    private static final Check CHECK = new Check("ToldTest");

    private ToldTest() {
    }

    public static void main(String[] args) {
        aResult();
        anError();
        whetherItHasAState();
        howManyNumbersItsLogHas();
        theNumbersOfItsLog();
        noSuchResult();
        noSuchWhatOfAResult();
        noResultOfOneThatEnded();
        noResultOfOneThatWasOut();
        noResultWithoutARun();
        whichErrorEndedIt();
        stepsThatItSpent();
        whetherASharedStateIsThere();
        theSharedLog();
        noSuchWhatOfARun();
        notWithoutARun();
        notOfOneThatWasOut();
        theLatestRun();
        callsThatAreNoRun();
        CHECK.end();
    }

    /** A result with the state 6 and the log 11, 12, then an error with 13. */
    private static int resultAndError(LayeredActs x) {
        int said = Make.seq(x, x.say(false, 11), Make.seq(x, x.say(false, 12), x.write(false, 6)));
        return x.either(said, x.fail(false, 13));
    }

    private static void resultIs(String about, LayeredActs x, int k, int... wanted) {
        for (int what = 0; what < wanted.length; what++) {
            CHECK.equal("result(" + k + ", " + what + ")" + about, wanted[what], x.result(k, what));
        }
        CHECK.failsArgument("result(" + k + ", " + wanted.length + ")" + about, () -> x.result(k, wanted.length));
    }

    private static void sharedIs(String about, LayeredActs x, int... wanted) {
        for (int what = 0; what < wanted.length; what++) {
            CHECK.equal("shared(" + what + ")" + about, wanted[what], x.shared(what));
        }
        CHECK.failsArgument("shared(" + wanted.length + ")" + about, () -> x.shared(wanted.length));
    }

    private static void aResult() {
        CHECK.sentence("what = 0 its number, 1 whether it is an ERROR (1, 0), 3 its STATE, 4 how many numbers its LOG has, 5 + i the i-th");
        LayeredActs x = Make.under(ERROR, STATE, LOG, CHOICE);
        CHECK.equal("two results", 2, x.run(resultAndError(x), 5, 100));
        resultIs("", x, 0, 5, 0, 1, 6, 2, 11, 12);
    }

    private static void anError() {
        CHECK.sentence("its number, or ERROR's; whether it is an ERROR (1, 0)");
        LayeredActs x = Make.under(ERROR, STATE, LOG, CHOICE);
        x.run(resultAndError(x), 5, 100);
        resultIs("", x, 1, 13, 1, 1, 5, 0);
        for (int n : new int[] {0, 1, -1, ENDED, OUT, MIN, MAX}) {
            CHECK.equal("one error", 1, x.run(x.fail(false, n), 0, 1));
            resultIs(" of " + n, x, 0, n, 1, 1, 0, 0);
            CHECK.equal("one number", 1, x.run(x.give(false, n), 0, 1));
            resultIs(" of " + n, x, 0, n, 0, 1, 0, 0);
        }
    }

    private static void whetherItHasAState() {
        CHECK.sentence("2 whether it has a STATE (1, 0: SHARED, no such LAYER, or gone), 3 its STATE (0 if none)");
        LayeredActs x = new LayeredActs();
        int give = x.give(false, 4);
        int failed = x.fail(false, 13);
        x.order(STATE, CHOICE, NONE, NONE);
        x.run(give, 9, 1);
        resultIs(", own", x, 0, 4, 0, 1, 9, NONE);
        x.run(give, 0, 1);
        resultIs(", own, 0", x, 0, 4, 0, 1, 0, NONE);
        x.order(CHOICE, STATE, NONE, NONE);
        x.run(give, 9, 1);
        resultIs(", shared", x, 0, 4, 0, 0, 0, NONE);
        x.order(CHOICE, NONE, NONE, NONE);
        x.run(give, 9, 1);
        resultIs(", no such layer", x, 0, 4, 0, 0, 0, NONE);
        x.order(NONE, NONE, NONE, NONE);
        x.run(give, 9, 1);
        resultIs(", no layer at all", x, 0, 4, 0, 0, 0, NONE);
        x.order(STATE, ERROR, NONE, NONE);
        x.run(failed, 9, 1);
        resultIs(", gone", x, 0, 13, 1, 0, 0, NONE);
        x.run(give, 9, 1);
        resultIs(", not gone, as it is no error", x, 0, 4, 0, 1, 9, NONE);
        x.order(ERROR, STATE, NONE, NONE);
        x.run(failed, 9, 1);
        resultIs(", not gone", x, 0, 13, 1, 1, 9, NONE);
    }

    private static void howManyNumbersItsLogHas() {
        CHECK.sentence("4 how many numbers its LOG has (NONE: it has none)");
        LayeredActs x = new LayeredActs();
        int said = Make.seq(x, x.say(false, 7), x.give(false, 4));
        int failed = Make.seq(x, said, x.fail(false, 13));
        x.order(LOG, CHOICE, NONE, NONE);
        x.run(x.give(false, 4), 0, 1);
        resultIs(", empty", x, 0, 4, 0, 0, 0, 0);
        x.run(said, 0, 9);
        resultIs(", own", x, 0, 4, 0, 0, 0, 1, 7);
        x.order(CHOICE, LOG, NONE, NONE);
        x.run(said, 0, 9);
        resultIs(", shared", x, 0, 4, 0, 0, 0, NONE);
        x.order(LOG, ERROR, NONE, NONE);
        x.run(failed, 0, 9);
        resultIs(", gone", x, 0, 13, 1, 0, 0, NONE);
        x.order(ERROR, LOG, NONE, NONE);
        x.run(failed, 0, 9);
        resultIs(", not gone", x, 0, 13, 1, 0, 0, 1, 7);
        x.order(NONE, NONE, NONE, NONE);
        x.run(x.give(false, 4), 0, 1);
        resultIs(", no such layer", x, 0, 4, 0, 0, 0, NONE);
    }

    private static void theNumbersOfItsLog() {
        CHECK.sentence("5 + i the i-th of them; IllegalArgumentException: no such number of a LOG");
        LayeredActs x = Make.under(LOG, CHOICE, NONE, NONE);
        int say = x.say(false, 3);
        int sixty = Make.seq(x, x.say(false, 1), x.then(x.times(false, 7, x.times(false, 8, say)), 0,
                Make.seq(x, x.times(false, 2, say), x.say(false, 2))));
        CHECK.equal("a full log and one of one", 2, x.run(x.either(sixty, say), 0, 2000));
        CHECK.equal("its size", 60, x.result(0, 4));
        CHECK.equal("the first", 1, x.result(0, 5));
        CHECK.equal("the second", 3, x.result(0, 6));
        CHECK.equal("the last but one", 3, x.result(0, 63));
        CHECK.equal("the last", 2, x.result(0, 64));
        for (int what : new int[] {65, 66, 100, MAX}) {
            CHECK.failsArgument("result(0, " + what + ")", () -> x.result(0, what));
        }
        resultIs(", the shorter one", x, 1, 3, 0, 0, 0, 1, 3);
        CHECK.failsArgument("far behind the shorter one", () -> x.result(1, 64));
        x.run(say, 0, 9);
        resultIs(", a shorter one in the next run", x, 0, 3, 0, 0, 0, 1, 3);
    }

    private static void noSuchResult() {
        CHECK.sentence("result: IndexOutOfBoundsException: k");
        LayeredActs x = Make.under(ERROR, STATE, LOG, CHOICE);
        x.run(resultAndError(x), 5, 100);
        for (int k : new int[] {-1, 2, 49, 50, 51, MIN, MAX}) {
            CHECK.failsOutside("result(" + k + ", 0)", () -> x.result(k, 0));
            CHECK.failsOutside("result(" + k + ", -1)", () -> x.result(k, -1));
        }
        x.run(Make.results(x, 50), 5, 2000);
        CHECK.equal("result(49, 0)", 1, x.result(49, 0));
        CHECK.failsOutside("result(50, 0)", () -> x.result(50, 0));
        x.run(x.give(false, 7), 5, 1);
        CHECK.equal("result(0, 0) of one", 7, x.result(0, 0));
        CHECK.failsOutside("result(1, 0) of one", () -> x.result(1, 0));
        CHECK.equal("no results", 0, x.run(x.none(), 5, 1));
        CHECK.failsOutside("result(0, 0) of none", () -> x.result(0, 0));
    }

    private static void noSuchWhatOfAResult() {
        CHECK.sentence("result: IllegalArgumentException: what is below 0, no such number of a LOG");
        LayeredActs x = Make.under(ERROR, STATE, LOG, CHOICE);
        x.run(resultAndError(x), 5, 100);
        for (int what : new int[] {-1, -2, -5, MIN, 7, 65, MAX}) {
            CHECK.failsArgument("result(0, " + what + ")", () -> x.result(0, what));
        }
        for (int what : new int[] {-1, 5, 6, MAX}) {
            CHECK.failsArgument("result(1, " + what + "), an empty log", () -> x.result(1, what));
        }
        x.order(STATE, LOG, ERROR, CHOICE);
        x.run(x.fail(false, 13), 5, 100);
        for (int what : new int[] {-1, 5, 6, MAX}) {
            CHECK.failsArgument("result(0, " + what + "), no log", () -> x.result(0, what));
        }
    }

    private static void noResultOfOneThatEnded() {
        CHECK.sentence("result: IndexOutOfBoundsException: also of a RUN that was ENDED");
        LayeredActs x = Make.under(CHOICE, ERROR, STATE, LOG);
        CHECK.equal("a result", 1, x.run(x.give(false, 1), 5, 100));
        CHECK.equal("ended", ENDED, x.run(resultAndError(x), 5, 100));
        noResultIsTold(x);
    }

    private static void noResultIsTold(LayeredActs x) {
        for (int what : new int[] {0, 1, 2, 3, 4, 5, -1}) {
            CHECK.failsOutside("result(0, " + what + ")", () -> x.result(0, what));
        }
        for (int k : new int[] {1, -1, ENDED, OUT, -4}) {
            CHECK.failsOutside("result(" + k + ", 0)", () -> x.result(k, 0));
        }
    }

    private static void noResultOfOneThatWasOut() {
        CHECK.sentence("result: IndexOutOfBoundsException: also of a RUN that was OUT");
        LayeredActs x = Make.under(CHOICE, ERROR, STATE, LOG);
        CHECK.equal("a result", 1, x.run(x.give(false, 1), 5, 100));
        CHECK.equal("out", OUT, x.run(resultAndError(x), 5, 2));
        noResultIsTold(x);
    }

    private static void noResultWithoutARun() {
        CHECK.sentence("result: IndexOutOfBoundsException: also of a RUN that was none");
        LayeredActs x = new LayeredActs();
        noResultIsTold(x);
        int give = x.give(false, 1);
        x.alike(give, give, 0, 9);
        noResultIsTold(x);
        CHECK.failsArgument("a run that is refused", () -> x.run(give, 0, 0));
        noResultIsTold(x);
    }

    private static void whichErrorEndedIt() {
        CHECK.sentence("shared: what = 0 the ERROR's number that ENDED it (0 if none did)");
        LayeredActs x = Make.under(CHOICE, ERROR, NONE, NONE);
        for (int n : new int[] {0, 7, -1, ENDED, OUT, MIN, MAX}) {
            CHECK.equal("ended by " + n, ENDED, x.run(x.fail(false, n), 5, 1));
            sharedIs(", ended by " + n, x, n, 1, 0, 0, NONE);
        }
        int saved = x.saved(x.fail(false, 8), 0, x.give(false, 1));
        CHECK.equal("saved", 1, x.run(saved, 5, 9));
        CHECK.equal("shared(0), saved", 0, x.shared(0));
        CHECK.equal("no error", 1, x.run(x.give(false, 1), 5, 9));
        CHECK.equal("shared(0), no error", 0, x.shared(0));
        x.order(ERROR, CHOICE, NONE, NONE);
        CHECK.equal("an own error", 1, x.run(x.fail(false, 8), 5, 9));
        CHECK.equal("shared(0), an own error", 0, x.shared(0));
    }

    private static void stepsThatItSpent() {
        CHECK.sentence("shared: 1 STEPS that it spent");
        LayeredActs x = Make.under(CHOICE, ERROR, NONE, NONE);
        int give = x.give(false, 1);
        x.run(give, 5, 1);
        CHECK.equal("one", 1, x.shared(1));
        x.run(x.either(give, give), 5, 2000);
        CHECK.equal("three of many", 3, x.shared(1));
        x.run(x.then(give, 0, x.fail(false, 1)), 5, 2000);
        CHECK.equal("ended", 3, x.shared(1));
        x.run(x.none(), 5, 2000);
        CHECK.equal("no results", 1, x.shared(1));
    }

    private static void whetherASharedStateIsThere() {
        CHECK.sentence("shared: 2 whether a SHARED STATE is there, 3 that (0 if not)");
        LayeredActs x = new LayeredActs();
        int write = x.write(false, 6);
        int failed = Make.seq(x, write, x.fail(false, 13));
        x.order(CHOICE, ERROR, STATE, NONE);
        x.run(write, 5, 9);
        sharedIs(", shared", x, 0, 1, 1, 6, NONE);
        x.run(x.write(false, 0), 5, 9);
        sharedIs(", shared, 0", x, 0, 1, 1, 0, NONE);
        x.run(x.none(), 5, 9);
        sharedIs(", no results", x, 0, 1, 1, 5, NONE);
        x.run(failed, 5, 9);
        sharedIs(", ended", x, 13, 3, 1, 6, NONE);
        x.order(CHOICE, STATE, ERROR, NONE);
        x.run(write, 5, 9);
        sharedIs(", shared, not ended", x, 0, 1, 1, 6, NONE);
        x.run(failed, 5, 9);
        sharedIs(", gone", x, 13, 3, 0, 0, NONE);
        x.order(STATE, CHOICE, ERROR, NONE);
        x.run(write, 5, 9);
        sharedIs(", own", x, 0, 1, 0, 0, NONE);
        x.run(failed, 5, 9);
        sharedIs(", own, ended", x, 13, 3, 0, 0, NONE);
        x.order(STATE, NONE, NONE, NONE);
        x.run(write, 5, 9);
        sharedIs(", no choice", x, 0, 1, 0, 0, NONE);
        x.order(CHOICE, NONE, NONE, NONE);
        x.run(x.give(false, 1), 5, 9);
        sharedIs(", no such layer", x, 0, 1, 0, 0, NONE);
    }

    private static void theSharedLog() {
        CHECK.sentence("shared: 4 how many numbers a SHARED LOG has (NONE: there is none), 5 + i the i-th of them");
        LayeredActs x = new LayeredActs();
        int said = Make.seq(x, x.say(false, 7), x.say(false, 8));
        int failed = Make.seq(x, said, x.fail(false, 13));
        x.order(CHOICE, ERROR, LOG, NONE);
        x.run(said, 5, 9);
        sharedIs(", shared", x, 0, 3, 0, 0, 2, 7, 8);
        x.run(x.none(), 5, 9);
        sharedIs(", empty", x, 0, 1, 0, 0, 0);
        x.run(failed, 5, 9);
        sharedIs(", ended", x, 13, 5, 0, 0, 2, 7, 8);
        x.order(CHOICE, LOG, ERROR, NONE);
        x.run(said, 5, 9);
        sharedIs(", shared, not ended", x, 0, 3, 0, 0, 2, 7, 8);
        x.run(failed, 5, 9);
        sharedIs(", gone", x, 13, 5, 0, 0, NONE);
        x.order(LOG, CHOICE, NONE, NONE);
        x.run(said, 5, 9);
        sharedIs(", own", x, 0, 3, 0, 0, NONE);
        x.order(LOG, NONE, NONE, NONE);
        x.run(said, 5, 9);
        sharedIs(", no choice", x, 0, 3, 0, 0, NONE);
        x.order(CHOICE, LOG, NONE, NONE);
        x.run(Make.seq(x, x.say(false, 1), x.then(x.times(false, 7, x.times(false, 8, x.say(false, 3))), 0, said)), 5, 2000);
        CHECK.equal("a long log", 59, x.shared(4));
        CHECK.equal("its first", 1, x.shared(5));
        CHECK.equal("its second", 3, x.shared(6));
        CHECK.equal("its last", 8, x.shared(63));
        CHECK.failsArgument("one behind it", () -> x.shared(64));
        x.run(Make.sixty(x, x.say(false, 4)), 5, 2000);
        CHECK.equal("a full log", 60, x.shared(4));
        CHECK.equal("its last", 4, x.shared(64));
        CHECK.failsArgument("one behind it", () -> x.shared(65));
    }

    private static void noSuchWhatOfARun() {
        CHECK.sentence("shared: IllegalArgumentException: what is below 0, no such number");
        LayeredActs x = Make.under(CHOICE, LOG, STATE, NONE);
        x.run(Make.seq(x, x.say(false, 7), x.say(false, 8)), 5, 9);
        for (int what : new int[] {-1, -2, -5, MIN, 7, 8, 65, MAX}) {
            CHECK.failsArgument("shared(" + what + ")", () -> x.shared(what));
        }
        x.order(CHOICE, NONE, NONE, NONE);
        x.run(x.give(false, 1), 5, 9);
        for (int what : new int[] {-1, MIN, 5, 6, MAX}) {
            CHECK.failsArgument("shared(" + what + "), no log", () -> x.shared(what));
        }
    }

    private static void notWithoutARun() {
        CHECK.sentence("shared: IllegalStateException: there was none");
        LayeredActs x = new LayeredActs();
        for (int what : new int[] {0, 1, 2, 3, 4, 5, -1, MIN, MAX}) {
            CHECK.failsState("shared(" + what + ") of a new object", () -> x.shared(what));
        }
        int give = x.give(false, 1);
        x.alike(give, give, 0, 9);
        CHECK.failsState("shared(1) behind alike", () -> x.shared(1));
        CHECK.failsArgument("a run that is refused", () -> x.run(give, 0, 2001));
        CHECK.failsState("shared(1) behind it", () -> x.shared(1));
        x.run(give, 0, 1);
        CHECK.equal("shared(1) behind a run", 1, x.shared(1));
    }

    private static void notOfOneThatWasOut() {
        CHECK.sentence("shared: IllegalStateException: or it was OUT");
        LayeredActs x = Make.under(CHOICE, LOG, STATE, ERROR);
        int give = x.give(false, 1);
        x.run(give, 5, 9);
        CHECK.equal("out", OUT, x.run(x.either(give, give), 5, 2));
        for (int what : new int[] {0, 1, 2, 3, 4, 5, -1, MIN, MAX}) {
            CHECK.failsState("shared(" + what + ")", () -> x.shared(what));
        }
        CHECK.equal("ended", ENDED, x.run(x.fail(false, 1), 5, 2));
        CHECK.equal("shared(0) of one that ended", 1, x.shared(0));
    }

    private static void theLatestRun() {
        CHECK.sentence("Of the latest RUN");
        LayeredActs x = Make.under(STATE, CHOICE, LOG, ERROR);
        int acts = Make.seq(x, x.say(false, 1), x.write(false, 2));
        CHECK.told("a run", "5@2 |[1]", x, acts);
        CHECK.told("one with more", "5@2 5@2 |[1,1]", x, x.either(acts, acts));
        CHECK.told("one with less", "5@5 |[]", x, x.read());
        CHECK.failsOutside("the second one of that before", () -> x.result(1, 0));
        CHECK.failsArgument("the log of that before", () -> x.shared(5));
        CHECK.told("one that ended", "ENDED 3 |", x, Make.seq(x, acts, x.fail(false, 3)));
        CHECK.told("one behind that", "5@2 |[1]", x, acts);
        CHECK.equal("its error", 0, x.shared(0));
        CHECK.told("one with none", "|[]", x, x.none());
    }

    private static void callsThatAreNoRun() {
        CHECK.sentence("Of the latest RUN (other calls are none)");
        LayeredActs x = Make.under(STATE, CHOICE, LOG, NONE);
        int acts = Make.seq(x, x.say(false, 1), x.write(false, 2));
        String told = Told.run(x, acts);
        CHECK.equal("the run", "5@2 |[1]", told);
        x.order(CHOICE, LOG, STATE, ERROR);
        CHECK.equal("behind another order", told, Told.latest(x, 1));
        x.order(NONE, NONE, NONE, NONE);
        CHECK.equal("behind an order of none", told, Told.latest(x, 1));
        CHECK.failsState("a run that needs layers", () -> x.run(acts, 0, 10));
        CHECK.failsArgument("a run of no steps", () -> x.run(acts, 0, 0));
        CHECK.failsOutside("a run of no term", () -> x.run(99, 0, 10));
        int give = x.give(false, 1);
        CHECK.equal("behind runs that were refused, and a term", told, Told.latest(x, 1));
        CHECK.equal("its steps", 3, x.shared(1));
        CHECK.told("behind another run", "1 |", x, give);
    }
}
