import java.util.LinkedHashMap;
import java.util.Map;

/** Calls that are refused: by which exception, when several would do, and that they change nothing. */
public final class RefusalsTest {
    private static final int NONE = LayeredActs.NONE, OUT = LayeredActs.OUT;
    private static final int STATE = 0, LOG = 1, ERROR = 2, CHOICE = 3;
    private static final int MIN = Integer.MIN_VALUE, MAX = Integer.MAX_VALUE;
    private static final Class<IndexOutOfBoundsException> OUTSIDE = IndexOutOfBoundsException.class;
    private static final Class<IllegalArgumentException> ARGUMENT = IllegalArgumentException.class;
    private static final Class<IllegalStateException> NOT_NOW = IllegalStateException.class;
    private static final Class<UnsupportedOperationException> FULL = UnsupportedOperationException.class;
    // Terms of a sample: a plain one, what is run of it, and one that needs a layer that its order has not.
    private static final int GIVE = 0, ACTS = 5, FAIL = 6, NAME = 7, TERMS = 8, MOST = 80;
    private static final Check CHECK = new Check("RefusalsTest");

    private RefusalsTest() {
    }

    public static void main(String[] args) {
        theSample();
        noSuchTermOrNameComesFirst();
        aWrongNumberComesNext();
        aMissingLayerComesLast();
        whatIsAskedOfNoRun();
        namesAndTermsThatThereAreNot();
        numbersThatAreNotAsTheyMustBe();
        layersThatAreMissing();
        termsWhenFull();
        termsThatAreTooHigh();
        askedOfARunThatWasOut();
        askedWithoutARun();
        CHECK.end();
    }

    /** A call on a sample. */
    private interface Call {
        long answer(LayeredActs x);
    }

    /** How a sample is made. */
    private interface Sample {
        LayeredActs make();
    }

    /** An own log, a shared state, no errors; no run yet. */
    private static LayeredActs withoutARun() {
        LayeredActs x = Make.under(LOG, CHOICE, NONE, STATE);
        x.give(false, 4);
        x.say(true, 0);
        x.write(false, 9);
        x.then(2, 0, 1);
        x.then(0, 0, 3);
        x.either(4, 3);
        x.fail(false, 1);
        x.give(true, 0);
        return x;
    }

    private static LayeredActs withARun() {
        LayeredActs x = withoutARun();
        x.run(ACTS, 5, 100);
        return x;
    }

    private static LayeredActs withARunThatWasOut() {
        LayeredActs x = withoutARun();
        x.run(ACTS, 5, 2);
        return x;
    }

    private static LayeredActs full() {
        LayeredActs x = withARun();
        while (x.terms() < MOST) {
            x.give(false, 0);
        }
        return x;
    }

    /** The last of its terms has the height 30. */
    private static LayeredActs high() {
        LayeredActs x = withARun();
        x.times(false, 1, GIVE);
        for (int height = 3; height <= 30; height++) {
            x.times(false, 1, x.terms() - 1);
        }
        return x;
    }

    private static String answerOf(Call call, LayeredActs x) {
        try {
            return Long.toString(call.answer(x));
        } catch (RuntimeException e) {
            return e.getClass().getSimpleName();
        }
    }

    private static String latestOf(LayeredActs x) {
        int results = answerOf(y -> y.result(0, 0), x).equals("IndexOutOfBoundsException") ? 0 : 2;
        String steps = answerOf(y -> y.shared(1), x);
        return steps.equals("IllegalStateException") ? "nothing" : Told.latest(x, results) + " steps " + steps;
    }

    /** All that can be seen of a sample, by further calls on it. */
    private static String seen(LayeredActs x) {
        StringBuilder text = new StringBuilder(x.terms() + " terms, needing");
        for (int t = 0; t < x.terms(); t++) {
            text.append(' ').append(x.needs(t));
        }
        text.append("; latest: ").append(latestOf(x));
        text.append("; acts: ").append(Told.run(x, ACTS)).append(" steps ").append(x.shared(1));
        text.append("; out: ").append(x.run(ACTS, 5, 2));
        text.append("; fail: ").append(answerOf(y -> y.run(FAIL, 5, 9), x));
        text.append("; name: ").append(Told.run(x, NAME));
        text.append("; more: ").append(answerOf(LayeredActs::read, x));
        text.append(' ').append(answerOf(y -> y.times(false, 1, y.terms() - 2), x));
        return text.toString();
    }

    private static void refused(Class<? extends RuntimeException> want, Sample sample, Map<String, Call> calls) {
        String before = seen(sample.make());
        calls.forEach((name, call) -> {
            LayeredActs x = sample.make();
            CHECK.fails(name, want, () -> call.answer(x));
            CHECK.equal("what is seen behind " + name, before, seen(x));
        });
    }

    private static void first(String call, Class<? extends RuntimeException> want, LayeredActs x, Call made) {
        CHECK.fails(call, want, () -> made.answer(x));
    }

    private static void theSample() {
        LayeredActs x = withARun();
        CHECK.equal("the sample's run", "5[5] 9[9] |@9", Told.latest(x, 2));
        CHECK.equal("the sample's terms", TERMS, x.terms());
    }

    private static void noSuchTermOrNameComesFirst() {
        CHECK.sentence("the one named first when several would do (IndexOutOfBoundsException)");
        for (LayeredActs x : new LayeredActs[] {full(), high()}) {
            int last = x.terms() - 1;
            int no = x.terms();
            first("give(true, 8)", OUTSIDE, x, y -> y.give(true, 8));
            first("write(true, -1)", OUTSIDE, x, y -> y.write(true, -1));
            first("say(true, 8)", OUTSIDE, x, y -> y.say(true, 8));
            first("fail(true, -1)", OUTSIDE, x, y -> y.fail(true, -1));
            first("of(8, 0, 0)", OUTSIDE, x, y -> y.of(8, 0, 0));
            first("of(0, -1, 5), also a wrong op", OUTSIDE, x, y -> y.of(0, -1, 5));
            first("of(8, 0, -1), also a wrong op", OUTSIDE, x, y -> y.of(8, 0, -1));
            first("either(last, no)", OUTSIDE, x, y -> y.either(last, no));
            first("either(no, last)", OUTSIDE, x, y -> y.either(no, last));
            first("then(last, 8, last)", OUTSIDE, x, y -> y.then(last, 8, last));
            first("then(no, 0, last)", OUTSIDE, x, y -> y.then(no, 0, last));
            first("then(last, 0, no)", OUTSIDE, x, y -> y.then(last, 0, no));
            first("saved(last, -1, last)", OUTSIDE, x, y -> y.saved(last, -1, last));
            first("saved(no, 0, last)", OUTSIDE, x, y -> y.saved(no, 0, last));
            first("saved(last, 0, -1)", OUTSIDE, x, y -> y.saved(last, 0, -1));
            first("when(8, last, last)", OUTSIDE, x, y -> y.when(8, last, last));
            first("when(0, -1, last)", OUTSIDE, x, y -> y.when(0, -1, last));
            first("when(0, last, no)", OUTSIDE, x, y -> y.when(0, last, no));
            first("times(true, 8, last)", OUTSIDE, x, y -> y.times(true, 8, last));
            first("times(false, 8, no)", OUTSIDE, x, y -> y.times(false, 8, no));
            first("as(0, no)", OUTSIDE, x, y -> y.as(0, no));
            first("as(3, no), also a wrong kind", OUTSIDE, x, y -> y.as(3, no));
            first("as(-1, -1), also a wrong kind", OUTSIDE, x, y -> y.as(-1, -1));
            first("run(no, 0, 0), also wrong steps", OUTSIDE, x, y -> y.run(no, 0, 0));
            first("run(-1, 0, 2001), also wrong steps", OUTSIDE, x, y -> y.run(-1, 0, 2001));
            first("result(2, -1), also a wrong what", OUTSIDE, x, y -> y.result(2, -1));
            first("result(-1, 6), also a wrong what", OUTSIDE, x, y -> y.result(-1, 6));
            first("alike(0, no, 0, 0), also wrong steps", OUTSIDE, x, y -> y.alike(0, no, 0, 0) ? 1 : 0);
            first("alike(-1, 0, 0, 2001), also wrong steps", OUTSIDE, x, y -> y.alike(-1, 0, 0, 2001) ? 1 : 0);
            first("alike(6, no, 0, 1), also no layer", OUTSIDE, x, y -> y.alike(FAIL, no, 0, 1) ? 1 : 0);
            first("alike(no, 6, 0, 1), also no layer", OUTSIDE, x, y -> y.alike(no, FAIL, 0, 1) ? 1 : 0);
        }
    }

    private static void aWrongNumberComesNext() {
        CHECK.sentence("the one named first when several would do (IllegalArgumentException)");
        for (LayeredActs x : new LayeredActs[] {full(), high()}) {
            int last = x.terms() - 1;
            first("of(0, 0, 5)", ARGUMENT, x, y -> y.of(0, 0, 5));
            first("of(7, 7, -1)", ARGUMENT, x, y -> y.of(7, 7, -1));
            first("as(3, last)", ARGUMENT, x, y -> y.as(3, last));
            first("as(-1, last)", ARGUMENT, x, y -> y.as(-1, last));
            first("run(6, 0, 0), also no layer", ARGUMENT, x, y -> y.run(FAIL, 0, 0));
            first("run(6, 0, 2001), also no layer", ARGUMENT, x, y -> y.run(FAIL, 0, 2001));
            first("alike(6, 0, 0, 0), also no layer", ARGUMENT, x, y -> y.alike(FAIL, 0, 0, 0) ? 1 : 0);
            first("alike(0, 6, 0, 2001), also no layer", ARGUMENT, x, y -> y.alike(0, FAIL, 0, 2001) ? 1 : 0);
        }
    }

    private static void aMissingLayerComesLast() {
        CHECK.sentence("the one named first when several would do (UnsupportedOperationException, IllegalStateException alone)");
        LayeredActs x = full();
        for (Way way : Way.ALL) {
            first(way.name() + " when full", FULL, x, y -> way.make(y, 0, 0));
        }
        first("run(6, 0, 1)", NOT_NOW, x, y -> y.run(FAIL, 0, 1));
        first("alike(0, 6, 0, 1)", NOT_NOW, x, y -> y.alike(0, FAIL, 0, 1) ? 1 : 0);
    }

    private static void whatIsAskedOfNoRun() {
        CHECK.sentence("the one named first when several would do (result, shared)");
        for (LayeredActs x : new LayeredActs[] {withoutARun(), withARunThatWasOut()}) {
            for (int what : new int[] {-1, MIN, 5, MAX}) {
                first("result(0, " + what + ")", OUTSIDE, x, y -> y.result(0, what));
                first("shared(" + what + ")", NOT_NOW, x, y -> y.shared(what));
            }
        }
    }

    private static void namesAndTermsThatThereAreNot() {
        CHECK.sentence("A call that throws changes nothing (IndexOutOfBoundsException)");
        Map<String, Call> calls = new LinkedHashMap<>();
        for (int n : new int[] {-1, 8, MIN, MAX}) {
            calls.put("give(true, " + n + ")", x -> x.give(true, n));
            calls.put("write(true, " + n + ")", x -> x.write(true, n));
            calls.put("say(true, " + n + ")", x -> x.say(true, n));
            calls.put("fail(true, " + n + ")", x -> x.fail(true, n));
            calls.put("of(" + n + ", 0, 0)", x -> x.of(n, 0, 0));
            calls.put("of(0, " + n + ", 0)", x -> x.of(0, n, 0));
            calls.put("then(0, " + n + ", 0)", x -> x.then(0, n, 0));
            calls.put("saved(0, " + n + ", 0)", x -> x.saved(0, n, 0));
            calls.put("when(" + n + ", 0, 0)", x -> x.when(n, 0, 0));
            calls.put("times(true, " + n + ", 0)", x -> x.times(true, n, 0));
        }
        for (int t : new int[] {-1, TERMS, 79, 80, MIN, MAX}) {
            for (Way way : Way.OF_PARTS) {
                for (int place = 0; place < way.parts(); place++) {
                    int at = place;
                    calls.put(way.name() + " of " + t + ", place " + at, x -> way.makeAt(x, at, t, 0));
                }
            }
            calls.put("needs(" + t + ")", x -> x.needs(t));
            calls.put("run(" + t + ", 0, 9)", x -> x.run(t, 0, 9));
            calls.put("alike(" + t + ", 0, 0, 9)", x -> x.alike(t, 0, 0, 9) ? 1 : 0);
            calls.put("alike(0, " + t + ", 0, 9)", x -> x.alike(0, t, 0, 9) ? 1 : 0);
        }
        for (int k : new int[] {-1, 2, 49, 50, MIN, MAX}) {
            calls.put("result(" + k + ", 0)", x -> x.result(k, 0));
        }
        refused(OUTSIDE, RefusalsTest::withARun, calls);
    }

    private static void numbersThatAreNotAsTheyMustBe() {
        CHECK.sentence("A call that throws changes nothing (IllegalArgumentException)");
        Map<String, Call> calls = new LinkedHashMap<>();
        for (int n : new int[] {-2, 4, MIN, MAX}) {
            calls.put("order(" + n + ", 0, 2, 3)", x -> x.order(n, STATE, ERROR, CHOICE));
            calls.put("order(2, " + n + ", 0, 3)", x -> x.order(ERROR, n, STATE, CHOICE));
            calls.put("order(2, 0, " + n + ", 3)", x -> x.order(ERROR, STATE, n, CHOICE));
            calls.put("order(2, 0, 1, " + n + ")", x -> x.order(ERROR, STATE, LOG, n));
        }
        calls.put("order(2, 2, 0, 1)", x -> x.order(ERROR, ERROR, STATE, LOG));
        calls.put("order(2, 0, 1, 2)", x -> x.order(ERROR, STATE, LOG, ERROR));
        calls.put("order(2, 0, 1, 1)", x -> x.order(ERROR, STATE, LOG, LOG));
        for (int n : new int[] {-1, 5, MIN, MAX}) {
            calls.put("of(0, 0, " + n + ")", x -> x.of(0, 0, n));
            calls.put("as(" + n + ", 0)", x -> x.as(n, 0));
            calls.put("shared(" + n + ")", x -> x.shared(n));
        }
        calls.put("as(3, 0)", x -> x.as(3, 0));
        for (int n : new int[] {0, -1, 2001, MIN, MAX}) {
            calls.put("run(0, 7, " + n + ")", x -> x.run(0, 7, n));
            calls.put("alike(0, 0, 7, " + n + ")", x -> x.alike(0, 0, 7, n) ? 1 : 0);
        }
        for (int n : new int[] {-1, 6, 64, 65, MIN, MAX}) {
            calls.put("result(0, " + n + ")", x -> x.result(0, n));
            calls.put("result(1, " + n + ")", x -> x.result(1, n));
        }
        refused(ARGUMENT, RefusalsTest::withARun, calls);
    }

    private static void layersThatAreMissing() {
        CHECK.sentence("A call that throws changes nothing (IllegalStateException)");
        Map<String, Call> calls = new LinkedHashMap<>();
        calls.put("run(6, 7, 9)", x -> x.run(FAIL, 7, 9));
        calls.put("alike(6, 0, 7, 9)", x -> x.alike(FAIL, GIVE, 7, 9) ? 1 : 0);
        calls.put("alike(0, 6, 7, 9)", x -> x.alike(GIVE, FAIL, 7, 9) ? 1 : 0);
        refused(NOT_NOW, RefusalsTest::withARun, calls);
    }

    private static void termsWhenFull() {
        CHECK.sentence("A call that throws changes nothing (UnsupportedOperationException: 80 TERMS)");
        Map<String, Call> calls = new LinkedHashMap<>();
        for (Way way : Way.ALL) {
            calls.put(way.name() + " when full", x -> way.make(x, 0, 1));
        }
        refused(FULL, RefusalsTest::full, calls);
    }

    private static void termsThatAreTooHigh() {
        CHECK.sentence("A call that throws changes nothing (UnsupportedOperationException: a HEIGHT above 30)");
        Map<String, Call> calls = new LinkedHashMap<>();
        for (Way way : Way.OF_PARTS) {
            for (int place = 0; place < way.parts(); place++) {
                int at = place;
                calls.put(way.name() + " of the highest, place " + at, x -> way.makeAt(x, at, x.terms() - 1, 0));
            }
        }
        refused(FULL, RefusalsTest::high, calls);
    }

    private static void askedOfARunThatWasOut() {
        CHECK.sentence("A call that throws changes nothing (of a RUN that was OUT)");
        CHECK.equal("the run", OUT, withoutARun().run(ACTS, 5, 2));
        asked(RefusalsTest::withARunThatWasOut);
    }

    private static void askedWithoutARun() {
        CHECK.sentence("A call that throws changes nothing (there was no RUN)");
        asked(RefusalsTest::withoutARun);
    }

    private static void asked(Sample sample) {
        Map<String, Call> results = new LinkedHashMap<>();
        Map<String, Call> shared = new LinkedHashMap<>();
        for (int what : new int[] {0, 1, 5, -1}) {
            results.put("result(0, " + what + ")", x -> x.result(0, what));
            shared.put("shared(" + what + ")", x -> x.shared(what));
        }
        refused(OUTSIDE, sample, results);
        refused(NOT_NOW, sample, shared);
    }
}
