/** What a run spends, and where it is out: promise 17. */
public final class RunsTest {
    private static final int NONE = LayeredActs.NONE, ENDED = LayeredActs.ENDED, OUT = LayeredActs.OUT;
    private static final int STATE = 0, LOG = 1, ERROR = 2, CHOICE = 3;
    private static final int ONCE = 0, HEARD = 1, HIDDEN = 2;
    private static final int MIN = Integer.MIN_VALUE, MAX = Integer.MAX_VALUE;
    private static final Check CHECK = new Check("RunsTest");

    private RunsTest() {
    }

    public static void main(String[] args) {
        aStepForEachTerm();
        aStepEachTime();
        aStepIsSpentFirst();
        moreThanItsSteps();
        twoThousandSteps();
        stepsOneToTwoThousand();
        aRunOfNoTerm();
        fiftyOfEither();
        fiftyOfThen();
        fiftyOfTimes();
        fiftyOfSavedOwn();
        fiftyOfSavedShared();
        fiftyOfOtherTerms();
        fiftyWithErrorsThatStay();
        fiftyOfTimesWithErrorsThatStay();
        fiftyWithNumbersThatStay();
        moreThanFiftyInside();
        fiftyComeToThemThen();
        fiftyOfThoseThatHaveCome();
        aLogOfSixty();
        aSharedLogOfSixty();
        aLogThatIsShorterAgain();
        nothingIsToldOfOneThatIsOut();
        manyUnderWay();
        manyNumbersSaid();
        fiveHundredTwelveCalls();
        CHECK.end();
    }

    private static int spent(LayeredActs x, int term) {
        x.run(term, 0, 2000);
        return x.shared(1);
    }

    private static void aStepForEachTerm() {
        CHECK.sentence("Each TERM that is DONE is a STEP");
        for (Way way : Way.ALL) {
            LayeredActs x = Make.under(ERROR, CHOICE, STATE, LOG);
            int give = x.give(false, 0);
            int term = way.make(x, give, give);
            // Name 7 is 0, so nothing is done by the times of it; saved has no error.
            boolean bothParts = way.name().equals("either") || way.name().equals("then");
            int want = way.parts() == 0 || way.name().equals("times of a name") ? 1 : bothParts ? 3 : 2;
            CHECK.equal("steps of " + way.name(), want, spent(x, term));
            CHECK.holds(way.name() + " with just these", x.run(term, 0, want) != OUT);
            if (want > 1) {
                CHECK.equal(way.name() + " with one less", OUT, x.run(term, 0, want - 1));
            }
        }
    }

    private static void aStepEachTime() {
        CHECK.sentence("Each TERM that is DONE, each time, is a STEP");
        LayeredActs x = Make.under(CHOICE, ERROR, NONE, NONE);
        int give = x.give(false, 1);
        int either = x.either(give, give);
        CHECK.equal("the same term twice", 3, spent(x, either));
        CHECK.equal("for each result", 6, spent(x, x.then(either, 0, x.none())));
        CHECK.equal("for each time", 4, spent(x, x.times(false, 3, give)));
        CHECK.equal("for each time and result", 10, spent(x, x.times(false, 2, either)));
        CHECK.equal("that ended, and was saved", 4, spent(x, x.saved(x.either(x.fail(false, 2), either), 0, give)));
        CHECK.equal("in the next run from the start", 1, spent(x, give));
        int many = x.times(false, 8, x.times(false, 8, x.times(false, 8, give)));
        CHECK.equal("of nested times", 1 + 8 * (1 + 8 * (1 + 8)), spent(x, many));
    }

    private static void aStepIsSpentFirst() {
        CHECK.sentence("is a STEP, spent first");
        LayeredActs x = Make.under(CHOICE, ERROR, LOG, NONE);
        int give = x.give(false, 1);
        int failed = x.fail(false, 2);
        CHECK.equal("the outer one, ahead of its parts", OUT, x.run(x.times(false, 1, failed), 0, 1));
        CHECK.equal("an error that has a step", ENDED, x.run(x.either(give, failed), 0, 3));
        CHECK.equal("its steps", 3, x.shared(1));
        CHECK.equal("an error that has none", OUT, x.run(x.either(give, failed), 0, 2));
        CHECK.equal("an error ahead of what has none", ENDED, x.run(x.either(failed, give), 0, 2));
        CHECK.equal("its steps", 2, x.shared(1));
        CHECK.equal("what saves has none", OUT, x.run(x.saved(failed, 0, give), 0, 2));
        CHECK.equal("what saves has one", 1, x.run(x.saved(failed, 0, give), 0, 3));
    }

    private static void moreThanItsSteps() {
        CHECK.sentence("It is OUT when more than its STEPS would be spent");
        LayeredActs x = Make.under(CHOICE, ERROR, NONE, NONE);
        int give = x.give(false, 1);
        CHECK.equal("one of one", 1, x.run(give, 0, 1));
        CHECK.equal("spent", 1, x.shared(1));
        int either = x.either(give, give);
        CHECK.equal("three of one", OUT, x.run(either, 0, 1));
        CHECK.equal("three of two", OUT, x.run(either, 0, 2));
        CHECK.equal("three of three", 2, x.run(either, 0, 3));
        CHECK.equal("spent", 3, x.shared(1));
        CHECK.equal("three of more", 2, x.run(either, 0, 2000));
        CHECK.equal("still spent", 3, x.shared(1));
        CHECK.equal("nothing saves it", OUT, x.run(x.saved(either, 0, give), 0, 3));
        int many = x.times(false, 8, x.times(false, 8, x.times(false, 8, give)));
        CHECK.equal("585 of 585", 1, x.run(many, 0, 585));
        CHECK.equal("585 of 584", OUT, x.run(many, 0, 584));
    }

    private static void twoThousandSteps() {
        CHECK.sentence("OUT when more than its STEPS would be spent; steps 1 .. 2000 (all of them)");
        LayeredActs x = Make.under(NONE, NONE, NONE, NONE);
        int give = x.give(false, 1);
        int cube = x.times(false, 8, x.times(false, 8, x.times(false, 8, give)));
        int many = x.times(false, 3, cube);
        int rest = x.times(false, 2, x.times(false, 8, x.times(false, 7, x.times(false, 1, give))));
        int all = x.then(many, 0, rest);
        CHECK.equal("2000 steps", 2000, spent(x, all));
        CHECK.equal("2000 of 1999", OUT, x.run(all, 0, 1999));
        CHECK.equal("2001 of 2000", OUT, x.run(x.times(false, 1, all), 0, 2000));
        CHECK.equal("2342 of 2000", OUT, x.run(x.times(false, 4, cube), 0, 2000));
        CHECK.holds("alike with 2000 steps", x.alike(all, give, 0, 2000));
        CHECK.holds("not alike with 1999 steps", !x.alike(all, give, 0, 1999));
    }

    private static void stepsOneToTwoThousand() {
        CHECK.sentence("run: IllegalArgumentException: steps is not 1 .. 2000");
        LayeredActs x = new LayeredActs();
        int give = x.give(false, 1);
        for (int n : new int[] {0, -1, 2001, MIN, MAX}) {
            CHECK.failsArgument("run with " + n + " steps", () -> x.run(give, 0, n));
        }
        CHECK.failsOutside("no run yet", () -> x.result(0, 0));
        for (int n : new int[] {1, 2, 1999, 2000}) {
            CHECK.equal("run with " + n + " steps", 1, x.run(give, 0, n));
        }
    }

    private static void aRunOfNoTerm() {
        CHECK.sentence("run: IndexOutOfBoundsException");
        LayeredActs x = new LayeredActs();
        x.give(false, 1);
        x.give(false, 2);
        for (int t : new int[] {-1, 2, 79, 80, MIN, MAX}) {
            CHECK.failsOutside("run(" + t + ", ..)", () -> x.run(t, 0, 1));
        }
        CHECK.equal("run of the last", 1, x.run(1, 0, 1));
        CHECK.equal("its number", 2, x.result(0, 0));
        CHECK.equal("run of the first", 1, x.run(0, 0, 1));
        CHECK.equal("its number", 1, x.result(0, 0));
    }

    private static void fiftyOfEither() {
        CHECK.sentence("the RESULTS of a part that was DONE come to those of the TERM, and these are more than 50 then (EITHER)");
        LayeredActs x = Make.under(CHOICE, NONE, NONE, NONE);
        int one = x.give(false, 4);
        int fifty = Make.results(x, 50);
        CHECK.equal("fifty", 50, x.run(fifty, 0, 2000));
        CHECK.equal("the fiftieth", 1, x.result(49, 0));
        CHECK.failsOutside("the fifty-first", () -> x.result(50, 0));
        CHECK.equal("fifty and none", 50, x.run(x.either(fifty, x.none()), 0, 2000));
        CHECK.equal("none and fifty", 50, x.run(x.either(x.none(), fifty), 0, 2000));
        CHECK.equal("fifty and one", OUT, x.run(x.either(fifty, one), 0, 2000));
        CHECK.equal("one and fifty", OUT, x.run(x.either(one, fifty), 0, 2000));
        CHECK.equal("fifty and fifty", OUT, x.run(x.either(fifty, fifty), 0, 2000));
    }

    private static void fiftyOfThen() {
        CHECK.sentence("the RESULTS of a part that was DONE come to those of the TERM, and these are more than 50 then (THEN)");
        LayeredActs x = Make.under(CHOICE, NONE, NONE, NONE);
        int ten = Make.results(x, 10);
        int five = Make.results(x, 5);
        int one = x.give(false, 1);
        CHECK.equal("ten times five", 50, x.run(Make.seq(x, ten, five), 0, 2000));
        CHECK.equal("five times ten", 50, x.run(Make.seq(x, five, ten), 0, 2000));
        CHECK.equal("ten times six", OUT, x.run(Make.seq(x, ten, x.either(five, one)), 0, 2000));
        int fifty = Make.results(x, 50);
        CHECK.equal("fifty times one", 50, x.run(Make.seq(x, fifty, one), 0, 2000));
        CHECK.equal("one times fifty", 50, x.run(Make.seq(x, one, fifty), 0, 2000));
        CHECK.equal("two times fifty", OUT, x.run(Make.seq(x, x.either(one, one), fifty), 0, 2000));
        CHECK.equal("fifty times none", 0, x.run(Make.seq(x, fifty, x.none()), 0, 2000));
        // One result for each of 49 that are 1, two for one that is 0.
        int ones = Make.results(x, 49);
        int twoOfZero = x.when(3, one, x.either(one, one));
        CHECK.equal("51, by the last", OUT, x.run(x.then(x.either(ones, x.give(false, 0)), 3, twoOfZero), 0, 2000));
        CHECK.equal("51, by the first", OUT, x.run(x.then(x.either(x.give(false, 0), ones), 3, twoOfZero), 0, 2000));
    }

    private static void fiftyOfTimes() {
        CHECK.sentence("the RESULTS of a part that was DONE come to those of the TERM, and these are more than 50 then (TIMES)");
        LayeredActs x = Make.under(STATE, CHOICE, NONE, NONE);
        int seven = Make.results(x, 7);
        CHECK.equal("two rounds of seven", 49, x.run(x.times(false, 2, seven), 0, 2000));
        CHECK.equal("three rounds of seven", OUT, x.run(x.times(false, 3, seven), 0, 2000));
        int two = Make.results(x, 2);
        CHECK.equal("five rounds of two", 32, x.run(x.times(false, 5, two), 0, 2000));
        CHECK.equal("six rounds of two", OUT, x.run(x.times(false, 6, two), 0, 2000));
        // The state counts the rounds: the third has no results, but the second has 64.
        int eight = x.either(seven, x.give(false, 1));
        int last = x.then(x.give(false, 2), 3, x.of(3, 0, 3));
        int round = x.then(Make.nextState(x), 0, x.then(last, 4, x.when(4, x.none(), eight)));
        CHECK.equal("a first round of eight", 8, x.run(x.times(false, 1, round), 1, 2000));
        CHECK.equal("a second round of eight", OUT, x.run(x.times(false, 2, round), 1, 2000));
        CHECK.equal("a second round of none", 0, x.run(x.times(false, 2, round), 2, 2000));
        CHECK.equal("a third round of none", OUT, x.run(x.times(false, 3, round), 1, 2000));
        LayeredActs y = Make.under(CHOICE, NONE, NONE, NONE);
        int fifty = Make.results(y, 50);
        CHECK.equal("one round of fifty", 50, y.run(y.times(false, 1, fifty), 0, 2000));
        CHECK.equal("two rounds of fifty", OUT, y.run(y.times(false, 2, fifty), 0, 2000));
    }

    private static void fiftyOfSavedOwn() {
        CHECK.sentence("the RESULTS of a part that was DONE come to those of the TERM, and these are more than 50 then (SAVED, OWN ERRORS)");
        LayeredActs x = Make.under(ERROR, CHOICE, NONE, NONE);
        int numbers = Make.results(x, 20);
        int error = x.fail(false, 1);
        int ten = x.either(numbers, Make.seq(x, Make.results(x, 10), error));
        int eleven = x.either(ten, error);
        int three = Make.results(x, 3);
        CHECK.equal("20 and 10 saved by 3", 50, x.run(x.saved(ten, 0, three), 0, 2000));
        CHECK.equal("20 and 11 saved by 3", OUT, x.run(x.saved(eleven, 0, three), 0, 2000));
        CHECK.equal("20 and 11 saved by 2", 42, x.run(x.saved(eleven, 0, x.either(error, error)), 0, 2000));
        CHECK.equal("20 and 11 saved by none", 20, x.run(x.saved(eleven, 0, x.none()), 0, 2000));
    }

    private static void fiftyOfSavedShared() {
        CHECK.sentence("the RESULTS of u alone (of a SHARED ERROR, so t's are not among the 50)");
        LayeredActs x = Make.under(CHOICE, ERROR, NONE, NONE);
        int fifty = Make.results(x, 50);
        int failed = x.either(fifty, x.fail(false, 1));
        CHECK.equal("fifty that are gone, and fifty", 50, x.run(x.saved(failed, 0, fifty), 0, 2000));
        CHECK.equal("fifty-one that save", OUT, x.run(x.saved(failed, 0, x.either(fifty, x.give(false, 1))), 0, 2000));
        CHECK.equal("fifty that need not be saved", 50, x.run(x.saved(fifty, 0, fifty), 0, 2000));
        CHECK.equal("none", 0, x.run(x.saved(failed, 0, x.none()), 0, 2000));
    }

    private static void fiftyOfOtherTerms() {
        CHECK.sentence("more than 50 (50 are not, whatever has them)");
        LayeredActs x = Make.under(LOG, CHOICE, NONE, NONE);
        int fifty = Make.results(x, 50);
        CHECK.equal("when", 50, x.run(x.when(0, fifty, fifty), 0, 2000));
        CHECK.equal("heard", 50, x.run(x.as(HEARD, fifty), 0, 2000));
        CHECK.equal("hidden", 50, x.run(x.as(HIDDEN, fifty), 0, 2000));
        CHECK.equal("once", 1, x.run(x.as(ONCE, fifty), 0, 2000));
        int once = x.as(ONCE, fifty);
        CHECK.equal("once, of fifty each", 2, x.run(x.either(once, once), 0, 2000));
    }

    private static void fiftyWithErrorsThatStay() {
        CHECK.sentence("all their RESULTS together; a RESULT that is an ERROR stays in its place (among the 50)");
        LayeredActs x = Make.under(ERROR, CHOICE, NONE, NONE);
        int numbers = Make.results(x, 20);
        int error = x.fail(false, 1);
        int errors = Make.seq(x, Make.results(x, 10), error);
        int two = Make.results(x, 2);
        CHECK.equal("40 and 10 errors", 50, x.run(Make.seq(x, x.either(numbers, errors), two), 0, 2000));
        CHECK.equal("10 errors and 40", 50, x.run(Make.seq(x, x.either(errors, numbers), two), 0, 2000));
        int more = x.either(errors, error);
        CHECK.equal("40 and 11 errors", OUT, x.run(Make.seq(x, x.either(numbers, more), two), 0, 2000));
        CHECK.equal("11 errors and 40", OUT, x.run(Make.seq(x, x.either(more, numbers), two), 0, 2000));
    }

    private static void fiftyOfTimesWithErrorsThatStay() {
        CHECK.sentence("TIMES: as THEN does; a RESULT that is an ERROR stays in its place (among the 50)");
        LayeredActs x = Make.under(ERROR, CHOICE, NONE, NONE);
        int error = x.fail(false, 1);
        int six = x.either(Make.results(x, 6), x.either(error, error));
        int five = x.either(Make.results(x, 5), Make.seq(x, Make.results(x, 5), error));
        CHECK.equal("six times eight, and 2 errors", 50, x.run(x.times(false, 2, six), 0, 2000));
        CHECK.equal("five times ten, and 5 errors", OUT, x.run(x.times(false, 2, five), 0, 2000));
    }

    private static void fiftyWithNumbersThatStay() {
        CHECK.sentence("SAVED: those that are none stay as they are (among the 50)");
        LayeredActs x = Make.under(ERROR, CHOICE, NONE, NONE);
        int numbers = Make.results(x, 20);
        int errors = Make.seq(x, Make.results(x, 10), x.fail(false, 1));
        int three = Make.results(x, 3);
        int more = x.either(numbers, x.give(false, 1));
        CHECK.equal("10 saved by 3, and 20", 50, x.run(x.saved(x.either(errors, numbers), 0, three), 0, 2000));
        CHECK.equal("10 saved by 3, and 21", OUT, x.run(x.saved(x.either(errors, more), 0, three), 0, 2000));
        CHECK.equal("21, and 10 saved by 3", OUT, x.run(x.saved(x.either(more, errors), 0, three), 0, 2000));
    }

    private static void moreThanFiftyInside() {
        CHECK.sentence("more than 50 then (fewer afterwards or not)");
        LayeredActs x = Make.under(LOG, CHOICE, ERROR, NONE);
        int fiftyOne = x.either(Make.results(x, 50), x.give(false, 1));
        CHECK.equal("once", OUT, x.run(x.as(ONCE, fiftyOne), 0, 2000));
        CHECK.equal("then none", OUT, x.run(Make.seq(x, fiftyOne, x.none()), 0, 2000));
        CHECK.equal("saved", OUT, x.run(x.saved(fiftyOne, 0, x.none()), 0, 2000));
        CHECK.equal("hidden", OUT, x.run(x.as(HIDDEN, fiftyOne), 0, 2000));
        CHECK.equal("a part that is not done", 1, x.run(x.when(0, fiftyOne, x.give(false, 1)), 0, 2000));
    }

    private static void fiftyComeToThemThen() {
        CHECK.sentence("when the RESULTS of a part that was DONE come to those of the TERM (not ahead of it, nor later)");
        LayeredActs x = Make.under(CHOICE, STATE, ERROR, NONE);
        int ten = Make.results(x, 10);
        int six = x.either(Make.results(x, 5), x.give(false, 1));
        // Fails when the state, which is counted up, is 0.
        int counted = x.then(Make.nextState(x), 0, x.when(0, six, x.fail(false, 8)));
        int all = x.then(ten, 3, counted);
        CHECK.equal("too many, ahead of an error", OUT, x.run(all, -9, 2000));
        CHECK.equal("an error, ahead of too many", ENDED, x.run(all, -8, 2000));
        CHECK.equal("too many, not saved", OUT, x.run(x.saved(all, 0, ten), -9, 2000));
        CHECK.equal("an error, saved", 10, x.run(x.saved(all, 0, ten), -8, 2000));
        int fifty = Make.results(x, 50);
        CHECK.equal("an error behind fifty", ENDED, x.run(x.either(fifty, x.either(x.give(false, 1), x.fail(false, 2))), 0, 2000));
    }

    private static void fiftyOfThoseThatHaveCome() {
        CHECK.sentence("those of the TERM, and these are more than 50 then (t's, that u is still to be DONE for, are not among them)");
        LayeredActs x = Make.under(ERROR, CHOICE, NONE, NONE);
        int one = x.give(false, 1);
        int ones = Make.results(x, 48);
        // Of the name 3: two results if it is 0, none if it is 5, else one.
        int isFive = x.then(x.give(false, 5), 4, x.of(3, 4, 4));
        int noneOfFive = x.then(isFive, 5, x.when(5, x.none(), one));
        int twoOfZero = x.when(3, noneOfFive, x.either(one, one));
        int numbers = x.either(x.give(false, 0), x.give(false, 5));
        CHECK.equal("then: two, none, and 48", 50, x.run(x.then(x.either(numbers, ones), 3, twoOfZero), 0, 2000));
        CHECK.equal("then: 48, two, and none", 50, x.run(x.then(x.either(ones, numbers), 3, twoOfZero), 0, 2000));
        int errors = x.then(numbers, 3, x.fail(true, 3));
        CHECK.equal("saved: two, none, and 48", 50, x.run(x.saved(x.either(errors, ones), 3, twoOfZero), 0, 2000));
        CHECK.equal("saved: 48, two, and none", 50, x.run(x.saved(x.either(ones, errors), 3, twoOfZero), 0, 2000));
    }

    private static void aLogOfSixty() {
        CHECK.sentence("when a LOG would have more than 60 numbers (OWN)");
        LayeredActs x = Make.under(LOG, CHOICE, ERROR, NONE);
        int say = x.say(false, 3);
        int sixty = Make.sixty(x, say);
        CHECK.equal("sixty numbers", 1, x.run(sixty, 0, 2000));
        CHECK.equal("their count", 60, x.result(0, 4));
        CHECK.equal("sixty-one", OUT, x.run(Make.seq(x, sixty, say), 0, 2000));
        CHECK.equal("sixty-one, the other way", OUT, x.run(Make.seq(x, say, sixty), 0, 2000));
        CHECK.equal("not saved", OUT, x.run(x.saved(Make.seq(x, sixty, say), 0, say), 0, 2000));
        CHECK.equal("sixty each", 2, x.run(x.either(sixty, sixty), 0, 2000));
        CHECK.equal("sixty and one, each its own", 2, x.run(x.either(sixty, say), 0, 2000));
        CHECK.equal("sixty-one of one of them", OUT, x.run(x.either(say, Make.seq(x, sixty, say)), 0, 2000));
        CHECK.equal("none of them has results", OUT, x.run(Make.seq(x, Make.seq(x, sixty, say), x.none()), 0, 2000));
        x.order(ERROR, LOG, NONE, NONE);
        CHECK.equal("without choice", 1, x.run(sixty, 0, 2000));
        CHECK.equal("sixty-one without choice", OUT, x.run(Make.seq(x, sixty, say), 0, 2000));
    }

    private static void aSharedLogOfSixty() {
        CHECK.sentence("when a LOG would have more than 60 numbers (SHARED)");
        LayeredActs x = Make.under(CHOICE, LOG, NONE, NONE);
        int say = x.say(false, 3);
        int sixty = Make.sixty(x, say);
        CHECK.equal("sixty", 1, x.run(sixty, 0, 2000));
        CHECK.equal("their count", 60, x.shared(4));
        CHECK.equal("sixty and one", OUT, x.run(x.either(sixty, say), 0, 2000));
        CHECK.equal("one and sixty", OUT, x.run(x.either(say, sixty), 0, 2000));
        CHECK.equal("sixty and none", 1, x.run(x.either(sixty, x.none()), 0, 2000));
    }

    private static void aLogThatIsShorterAgain() {
        CHECK.sentence("a LOG would have more than 60 numbers (as it is then)");
        LayeredActs x = Make.under(LOG, ERROR, CHOICE, NONE);
        int say = x.say(false, 3);
        int sixty = Make.sixty(x, say);
        int failed = Make.seq(x, sixty, x.fail(false, 1));
        int again = Make.seq(x, x.as(HIDDEN, sixty), sixty);
        int saved = x.saved(failed, 0, sixty);
        CHECK.equal("hidden, and sixty", 1, x.run(again, 0, 2000));
        CHECK.equal("sixty-one in hidden", OUT, x.run(x.as(HIDDEN, Make.seq(x, sixty, say)), 0, 2000));
        CHECK.equal("lost by an own error, and sixty", 1, x.run(saved, 0, 2000));
        x.order(ERROR, LOG, CHOICE, NONE);
        CHECK.equal("kept by an own error, and sixty", OUT, x.run(saved, 0, 2000));
        x.order(CHOICE, LOG, ERROR, NONE);
        CHECK.equal("hidden, and sixty, shared", 1, x.run(again, 0, 2000));
        CHECK.equal("lost by a shared error, and sixty", 1, x.run(saved, 0, 2000));
        x.order(CHOICE, ERROR, LOG, NONE);
        CHECK.equal("kept by a shared error, and sixty", OUT, x.run(saved, 0, 2000));
    }

    private static void nothingIsToldOfOneThatIsOut() {
        CHECK.sentence("nothing is told of it then");
        LayeredActs x = Make.under(CHOICE, LOG, NONE, NONE);
        int give = x.give(false, 1);
        int say = x.say(false, 1);
        int two = x.either(give, give);
        int manyResults = x.times(false, 6, two);
        int longLog = Make.seq(x, Make.sixty(x, say), say);
        int[][] runs = {{two, 2}, {manyResults, 2000}, {longLog, 2000}};
        for (int[] run : runs) {
            CHECK.equal("a run", 2, x.run(two, 0, 3));
            CHECK.equal("one that is out", OUT, x.run(run[0], 0, run[1]));
            for (int what : new int[] {0, 1, 2, 3, 4, 5, -1}) {
                CHECK.failsOutside("result(0, " + what + ")", () -> x.result(0, what));
                CHECK.failsState("shared(" + what + ")", () -> x.shared(what));
            }
            CHECK.equal("a run again", 2, x.run(two, 0, 3));
            CHECK.equal("its result", 1, x.result(1, 0));
            CHECK.equal("its steps", 3, x.shared(1));
        }
    }

    private static void manyUnderWay() {
        CHECK.sentence("these are more than 50 (of one TERM, however many others have)");
        LayeredActs x = Make.under(CHOICE, ERROR, NONE, NONE);
        int fifty = Make.results(x, 50);
        int deep = x.fail(false, 6);
        for (int i = 0; i < 18; i++) {
            deep = x.then(fifty, i % 8, deep);
        }
        CHECK.equal("eighteen times fifty", ENDED, x.run(deep, 0, 2000));
        CHECK.equal("its error", 6, x.shared(0));
        CHECK.equal("and fifty", 50, x.run(x.saved(deep, 0, fifty), 0, 2000));
        LayeredActs y = Make.under(CHOICE, NONE, NONE, NONE);
        int side = Make.results(y, 49);
        int chain = y.give(false, 2);
        for (int i = 0; i < 11; i++) {
            chain = y.either(y.as(ONCE, side), Make.seq(y, chain, y.give(false, i)));
            CHECK.equal("a chain of " + i, i + 2, y.run(chain, 0, 2000));
        }
    }

    private static void manyNumbersSaid() {
        CHECK.sentence("a LOG would have more than 60 numbers (of one LOG, however many were said)");
        LayeredActs x = Make.under(LOG, CHOICE, NONE, NONE);
        int eight = x.as(HIDDEN, x.times(false, 7, x.times(false, 8, x.say(false, 1))));
        int many = Make.seq(x, x.times(false, 5, x.times(false, 5, eight)), x.times(false, 4, eight));
        CHECK.equal("29 times 56, own", 1, x.run(many, 0, 2000));
        CHECK.equal("no number left", 0, x.result(0, 4));
        x.order(CHOICE, LOG, NONE, NONE);
        CHECK.equal("29 times 56, shared", 1, x.run(many, 0, 2000));
        CHECK.equal("no number left, shared", 0, x.shared(4));
    }

    private static void fiveHundredTwelveCalls() {
        CHECK.sentence("An object is used for at most 512 calls after it has been made");
        LayeredActs x = Make.under(LOG, CHOICE, STATE, NONE);
        int say = x.say(false, 1);
        int all = Make.seq(x, Make.sixty(x, say), x.either(x.write(false, 2), x.write(false, 3)));
        // The order, and to ask for the number of terms, are calls, too.
        int calls = x.terms() + 2;
        while (calls <= 512 - 4) {
            CHECK.equal("run, call " + calls, 2, x.run(all, calls, 2000));
            CHECK.equal("result, behind it", calls, x.result(0, 0));
            CHECK.holds("alike, behind it", x.alike(all, all, 5, 2000));
            CHECK.equal("the log's last, behind it", 1, x.result(1, 64));
            calls += 4;
        }
        while (calls < 512) {
            CHECK.equal("terms, call " + calls, all + 1, x.terms());
            calls++;
        }
    }
}
