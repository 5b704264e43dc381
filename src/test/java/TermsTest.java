/** How terms are made, counted and refused, and which layers they need: promises 1 to 14, 16, 21. */
public final class TermsTest {
    private static final int STATE = 1, LOG = 2, ERROR = 4, CHOICE = 8;
    private static final int[] NO_NAMES = {-1, 8, Integer.MIN_VALUE, Integer.MAX_VALUE};
    private static final Check CHECK = new Check("TermsTest");

    private TermsTest() {
    }

    public static void main(String[] args) {
        aNewObject();
        numbersAndNeeds();
        needsOfParts();
        wrongNames();
        wrongTerms();
        wrongNumbers();
        atMostEighty();
        atMostThirtyHigh();
        heightIsOfTheHigherPart();
        whichExceptionIsFirst();
        CHECK.end();
    }

    private static void aNewObject() {
        LayeredActs x = new LayeredActs();
        CHECK.equal("terms() of a new object", 0, x.terms());
        CHECK.failsOutside("needs(0) of a new object", () -> x.needs(0));
        CHECK.failsOutside("result(0, 0) of a new object", () -> x.result(0, 0));
        CHECK.failsState("shared(0) of a new object", () -> x.shared(0));
        x.read();
        CHECK.failsState("run of READ under the first ORDER", () -> x.run(0, 0, 1));
        x.give(false, 4);
        CHECK.equal("run of GIVE under the first ORDER", "4 |", Told.run(x, 1));
    }

    private static void numbersAndNeeds() {
        LayeredActs x = new LayeredActs();
        made(x, 0, 0, x.give(false, 1));
        made(x, 1, 0, x.give(true, 7));
        made(x, 2, 0, x.of(0, 7, 4));
        made(x, 3, STATE, x.read());
        made(x, 4, STATE, x.write(false, -1));
        made(x, 5, STATE, x.write(true, 0));
        made(x, 6, LOG, x.say(false, 9));
        made(x, 7, LOG, x.say(true, 7));
        made(x, 8, ERROR, x.fail(false, 8));
        made(x, 9, ERROR, x.fail(true, 0));
        made(x, 10, CHOICE, x.none());
        made(x, 11, CHOICE, x.either(0, 1));
        made(x, 12, 0, x.then(0, 7, 0));
        made(x, 13, ERROR, x.saved(0, 0, 1));
        made(x, 14, 0, x.when(7, 0, 1));
        made(x, 15, 0, x.times(false, -5, 0));
        made(x, 16, 0, x.times(true, 7, 0));
        made(x, 17, CHOICE, x.as(0, 0));
        made(x, 18, LOG, x.as(1, 0));
        made(x, 19, LOG, x.as(2, 0));
        CHECK.failsOutside("needs(20)", () -> x.needs(20));
        CHECK.failsOutside("needs(-1)", () -> x.needs(-1));
    }

    private static void made(LayeredActs x, int number, int needs, int got) {
        CHECK.equal("the number of term " + number, number, got);
        CHECK.equal("terms() behind term " + number, number + 1, x.terms());
        CHECK.equal("needs(" + number + ")", needs, x.needs(number));
    }

    private static void needsOfParts() {
        LayeredActs x = new LayeredActs();
        int read = x.read();
        int say = x.say(false, 0);
        int fail = x.fail(false, 0);
        int none = x.none();
        int give = x.give(false, 0);
        CHECK.equal("needs of then", STATE | LOG, x.needs(x.then(read, 0, say)));
        CHECK.equal("needs of when", ERROR | CHOICE, x.needs(x.when(0, fail, none)));
        CHECK.equal("needs of either", LOG | CHOICE, x.needs(x.either(give, say)));
        CHECK.equal("needs of saved", ERROR | STATE, x.needs(x.saved(give, 0, read)));
        CHECK.equal("needs of times", CHOICE, x.needs(x.times(false, 0, none)));
        CHECK.equal("needs of once", STATE | CHOICE, x.needs(x.as(0, read)));
        int all = x.then(x.then(read, 0, say), 0, x.either(fail, none));
        CHECK.equal("needs of all", 15, x.needs(x.then(all, 1, give)));
    }

    private static void wrongNames() {
        LayeredActs x = new LayeredActs();
        x.give(false, 0);
        for (int n : NO_NAMES) {
            CHECK.failsOutside("give(true, " + n + ")", () -> x.give(true, n));
            CHECK.failsOutside("write(true, " + n + ")", () -> x.write(true, n));
            CHECK.failsOutside("say(true, " + n + ")", () -> x.say(true, n));
            CHECK.failsOutside("fail(true, " + n + ")", () -> x.fail(true, n));
            CHECK.failsOutside("of(" + n + ", 0, 0)", () -> x.of(n, 0, 0));
            CHECK.failsOutside("of(0, " + n + ", 0)", () -> x.of(0, n, 0));
            CHECK.failsOutside("then(0, " + n + ", 0)", () -> x.then(0, n, 0));
            CHECK.failsOutside("saved(0, " + n + ", 0)", () -> x.saved(0, n, 0));
            CHECK.failsOutside("when(" + n + ", 0, 0)", () -> x.when(n, 0, 0));
            CHECK.failsOutside("times(true, " + n + ", 0)", () -> x.times(true, n, 0));
        }
        CHECK.equal("terms() behind wrong names", 1, x.terms());
    }

    private static void wrongTerms() {
        LayeredActs x = new LayeredActs();
        x.give(false, 0);
        for (int t : new int[] {-1, 1, 79, 80, Integer.MIN_VALUE, Integer.MAX_VALUE}) {
            CHECK.failsOutside("either(" + t + ", 0)", () -> x.either(t, 0));
            CHECK.failsOutside("either(0, " + t + ")", () -> x.either(0, t));
            CHECK.failsOutside("then(" + t + ", 0, 0)", () -> x.then(t, 0, 0));
            CHECK.failsOutside("then(0, 0, " + t + ")", () -> x.then(0, 0, t));
            CHECK.failsOutside("saved(" + t + ", 0, 0)", () -> x.saved(t, 0, 0));
            CHECK.failsOutside("saved(0, 0, " + t + ")", () -> x.saved(0, 0, t));
            CHECK.failsOutside("when(0, " + t + ", 0)", () -> x.when(0, t, 0));
            CHECK.failsOutside("when(0, 0, " + t + ")", () -> x.when(0, 0, t));
            CHECK.failsOutside("times(false, 1, " + t + ")", () -> x.times(false, 1, t));
            CHECK.failsOutside("as(0, " + t + ")", () -> x.as(0, t));
            CHECK.failsOutside("needs(" + t + ")", () -> x.needs(t));
        }
        CHECK.equal("terms() behind wrong terms", 1, x.terms());
    }

    private static void wrongNumbers() {
        LayeredActs x = new LayeredActs();
        x.give(false, 0);
        for (int n : new int[] {-1, 5, Integer.MIN_VALUE, Integer.MAX_VALUE}) {
            CHECK.failsArgument("of(0, 0, " + n + ")", () -> x.of(0, 0, n));
        }
        for (int n : new int[] {-1, 3, Integer.MIN_VALUE, Integer.MAX_VALUE}) {
            CHECK.failsArgument("as(" + n + ", 0)", () -> x.as(n, 0));
        }
        CHECK.equal("terms() behind wrong numbers", 1, x.terms());
    }

    private static void atMostEighty() {
        LayeredActs x = new LayeredActs();
        for (int i = 0; i < 80; i++) {
            CHECK.equal("give number " + i, i, x.give(false, i));
        }
        CHECK.failsFull("give, the 81st", () -> x.give(false, 0));
        CHECK.failsFull("of, the 81st", () -> x.of(0, 0, 0));
        CHECK.failsFull("read, the 81st", x::read);
        CHECK.failsFull("write, the 81st", () -> x.write(true, 0));
        CHECK.failsFull("say, the 81st", () -> x.say(false, 0));
        CHECK.failsFull("fail, the 81st", () -> x.fail(false, 0));
        CHECK.failsFull("none, the 81st", x::none);
        CHECK.failsFull("either, the 81st", () -> x.either(0, 79));
        CHECK.failsFull("then, the 81st", () -> x.then(0, 0, 79));
        CHECK.failsFull("saved, the 81st", () -> x.saved(0, 0, 79));
        CHECK.failsFull("when, the 81st", () -> x.when(0, 0, 79));
        CHECK.failsFull("times, the 81st", () -> x.times(false, 0, 79));
        CHECK.failsFull("as, the 81st", () -> x.as(0, 79));
        CHECK.equal("terms() when full", 80, x.terms());
        CHECK.equal("the last of eighty", "79 |", Told.run(x, 79));
    }

    private static void atMostThirtyHigh() {
        LayeredActs x = new LayeredActs();
        int top = x.give(false, 6);
        for (int height = 2; height <= 30; height++) {
            top = x.times(false, 1, top);
        }
        int highest = top;
        CHECK.equal("the number of the highest", 29, highest);
        CHECK.failsFull("either, too high", () -> x.either(0, highest));
        CHECK.failsFull("then, too high by its first", () -> x.then(highest, 0, 0));
        CHECK.failsFull("then, too high by its second", () -> x.then(0, 0, highest));
        CHECK.failsFull("saved, too high", () -> x.saved(highest, 0, 0));
        CHECK.failsFull("when, too high", () -> x.when(0, 0, highest));
        CHECK.failsFull("times, too high", () -> x.times(true, 0, highest));
        CHECK.failsFull("as, too high", () -> x.as(2, highest));
        CHECK.equal("terms() behind those too high", 30, x.terms());
        CHECK.equal("the highest one's run", "6 |", Told.run(x, highest));
        CHECK.equal("its steps", 30, x.shared(1));
        CHECK.equal("one as high as that again", 30, x.then(28, 0, 28));
    }

    private static void heightIsOfTheHigherPart() {
        LayeredActs x = new LayeredActs();
        int low = x.give(false, 6);
        int top = low;
        for (int height = 2; height <= 30; height++) {
            top = height % 2 == 0 ? x.then(low, 0, top) : x.then(top, 0, low);
        }
        int highest = top;
        CHECK.failsFull("above both", () -> x.then(low, 0, highest));
        CHECK.equal("above the low one", 30, x.then(low, 0, low));
    }

    private static void whichExceptionIsFirst() {
        LayeredActs x = new LayeredActs();
        for (int i = 0; i < 80; i++) {
            x.none();
        }
        CHECK.failsOutside("give(true, 8) when full", () -> x.give(true, 8));
        CHECK.failsOutside("write(true, 8) when full", () -> x.write(true, 8));
        CHECK.failsOutside("say(true, 8) when full", () -> x.say(true, 8));
        CHECK.failsOutside("fail(true, 8) when full", () -> x.fail(true, 8));
        CHECK.failsOutside("of(8, 0, 9) when full", () -> x.of(8, 0, 9));
        CHECK.failsArgument("of(0, 0, 9) when full", () -> x.of(0, 0, 9));
        CHECK.failsOutside("either(0, 80) when full", () -> x.either(0, 80));
        CHECK.failsOutside("then(0, 8, 0) when full", () -> x.then(0, 8, 0));
        CHECK.failsOutside("saved(80, 0, 0) when full", () -> x.saved(80, 0, 0));
        CHECK.failsOutside("when(8, 0, 0) when full", () -> x.when(8, 0, 0));
        CHECK.failsOutside("times(true, 8, 0) when full", () -> x.times(true, 8, 0));
        CHECK.failsOutside("as(3, 80) when full", () -> x.as(3, 80));
        CHECK.failsArgument("as(3, 0) when full", () -> x.as(3, 0));
        CHECK.failsOutside("run(80, 0, 0)", () -> x.run(80, 0, 0));
        CHECK.failsArgument("run(0, 0, 0), needing a layer", () -> x.run(0, 0, 0));
        CHECK.failsState("run(0, 0, 1), needing a layer", () -> x.run(0, 0, 1));
        CHECK.failsOutside("alike(0, 80, 0, 0)", () -> x.alike(0, 80, 0, 0) ? 1 : 0);
        CHECK.failsArgument("alike(0, 0, 0, 2001), needing a layer", () -> x.alike(0, 0, 0, 2001) ? 1 : 0);
        CHECK.failsState("alike(0, 0, 0, 1), needing a layer", () -> x.alike(0, 0, 0, 1) ? 1 : 0);
        CHECK.failsOutside("result(0, -1) of no run", () -> x.result(0, -1));
        CHECK.failsState("shared(-1) of no run", () -> x.shared(-1));
    }
}
