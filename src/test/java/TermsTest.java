/** How terms are made, numbered, refused and counted, and what they need: promises 1 to 14, 16 and 21. */
public final class TermsTest {
    private static final int MIN = Integer.MIN_VALUE, MAX = Integer.MAX_VALUE;
    private static final int STATE = 1, LOG = 2, ERROR = 4, CHOICE = 8;
    private static final int[] NO_NAMES = {-1, 8, MIN, MAX};
    private static final Check CHECK = new Check("TermsTest");

    private TermsTest() {
    }

    public static void main(String[] args) {
        aNewObjectHasNoTerms();
        aNewOrderHasNoLayers();
        numberedFromZero();
        eightyAtMost();
        ofLesserNumbers();
        ofTermsThatThereAre();
        madeOfNoneHasHeightOne();
        oneAboveTheGreatest();
        lowOnesBehindAHighOne();
        operandsThatAreNumbers();
        operandsThatAreNames();
        ofTakesNames();
        ofTakesFiveOps();
        namesOfThenSavedWhen();
        asTakesThreeKinds();
        needsOfEachTerm();
        needsOfParts();
        needsOfNoTerm();
        howManyTerms();
        CHECK.end();
    }

    private static LayeredActs holding(int many) {
        LayeredActs x = new LayeredActs();
        for (int i = 0; i < many; i++) {
            x.give(false, i);
        }
        return x;
    }

    private static void aNewObjectHasNoTerms() {
        CHECK.sentence("No TERMS");
        LayeredActs x = new LayeredActs();
        CHECK.equal("terms()", 0, x.terms());
        CHECK.failsOutside("needs(0)", () -> x.needs(0));
        CHECK.failsOutside("run(0, 0, 1)", () -> x.run(0, 0, 1));
        CHECK.failsOutside("alike(0, 0, 0, 1)", () -> x.alike(0, 0, 0, 1) ? 1 : 0);
        for (Way way : Way.OF_PARTS) {
            CHECK.failsOutside(way.name() + " of term 0", () -> way.make(x, 0, 0));
        }
        CHECK.equal("terms() behind them", 0, x.terms());
    }

    private static void aNewOrderHasNoLayers() {
        CHECK.sentence("the ORDER has no LAYERS");
        LayeredActs x = new LayeredActs();
        int[] needing = {x.read(), x.say(false, 1), x.fail(false, 1), x.none()};
        for (int t : needing) {
            CHECK.failsState("run(" + t + ", 0, 1)", () -> x.run(t, 0, 1));
        }
        CHECK.told("give, which needs none", "4 |", x, x.give(false, 4));
    }

    private static void numberedFromZero() {
        CHECK.sentence("TERMS are numbered from 0 as they are made");
        for (Way way : Way.OF_NONE) {
            LayeredActs x = new LayeredActs();
            CHECK.equal(way.name() + ", the first", 0, way.make(x, 0, 0));
            CHECK.equal(way.name() + ", the second", 1, way.make(x, 0, 0));
        }
        LayeredActs x = holding(1);
        int number = 1;
        for (Way way : Way.ALL) {
            CHECK.equal(way.name(), number, way.make(x, number - 1, 0));
            number++;
        }
    }

    private static void eightyAtMost() {
        CHECK.sentence("TERMS, 80 at most; UnsupportedOperationException: 80 TERMS");
        for (Way way : Way.ALL) {
            LayeredActs x = holding(79);
            CHECK.equal(way.name() + ", the 80th", 79, way.make(x, 78, 0));
            CHECK.failsFull(way.name() + ", the 81st", () -> way.make(x, 78, 0));
            CHECK.failsFull(way.name() + ", the 81st again", () -> way.make(x, 0, 0));
            CHECK.equal("terms() behind " + way.name(), 80, x.terms());
        }
        CHECK.told("the 80th is there", "79 |", holding(80), 79);
    }

    private static void ofLesserNumbers() {
        CHECK.sentence("of TERMS with lesser numbers");
        for (Way way : Way.OF_PARTS) {
            for (int place = 0; place < way.parts(); place++) {
                LayeredActs x = holding(3);
                int at = place;
                CHECK.failsOutside(way.name() + " of itself", () -> way.makeAt(x, at, 3, 0));
                CHECK.failsOutside(way.name() + " of the one behind", () -> way.makeAt(x, at, 4, 0));
                CHECK.equal(way.name() + " of the one ahead", 3, way.makeAt(x, at, 2, 0));
                CHECK.equal(way.name() + " of that one", 4, way.makeAt(x, at, 3, 0));
                CHECK.equal(way.name() + " of the first", 5, way.makeAt(x, at, 0, 1));
            }
        }
    }

    private static void ofTermsThatThereAre() {
        CHECK.sentence("IndexOutOfBoundsException: there is no such TERM");
        for (Way way : Way.OF_PARTS) {
            for (int place = 0; place < way.parts(); place++) {
                LayeredActs x = holding(1);
                int at = place;
                for (int part : new int[] {-1, 1, 79, 80, MIN, MAX}) {
                    CHECK.failsOutside(way.name() + " of " + part, () -> way.makeAt(x, at, part, 0));
                    CHECK.failsOutside(way.name() + " of " + part + " alone", () -> way.make(x, part, part));
                }
                CHECK.equal("terms() behind " + way.name(), 1, x.terms());
            }
        }
    }

    /** How many terms can be made in a row of the first, each of the one ahead, by this way. */
    private static int rising(LayeredActs x, Way way, int place, int first) {
        int part = first;
        for (int many = 0; many < 40; many++) {
            try {
                part = way.makeAt(x, place, part, 0);
            } catch (UnsupportedOperationException e) {
                return many;
            }
        }
        return 40;
    }

    private static void madeOfNoneHasHeightOne() {
        CHECK.sentence("One that is made of none has HEIGHT 1");
        Way above = Way.OF_PARTS.get(0);
        for (Way way : Way.OF_NONE) {
            LayeredActs x = new LayeredActs();
            CHECK.equal("heights above " + way.name(), 29, rising(x, above, 0, way.make(x, 0, 0)));
        }
    }

    private static void oneAboveTheGreatest() {
        CHECK.sentence("another one a HEIGHT 1 above the greatest of those that it is made of; 30 at most");
        for (Way way : Way.OF_PARTS) {
            for (int place = 0; place < way.parts(); place++) {
                LayeredActs x = holding(1);
                CHECK.equal("heights by " + way.name() + ", place " + place, 29, rising(x, way, place, 0));
                CHECK.equal("terms() behind them", 30, x.terms());
                theHighestIsRefused(x, 29);
            }
        }
    }

    /** By all ways, in all places, while the one below it can be taken. */
    private static void theHighestIsRefused(LayeredActs x, int highest) {
        for (Way way : Way.OF_PARTS) {
            for (int place = 0; place < way.parts(); place++) {
                int at = place;
                CHECK.failsFull(way.name() + " of the highest", () -> way.makeAt(x, at, highest, 0));
            }
            CHECK.failsFull(way.name() + " of the highest twice", () -> way.make(x, highest, highest));
        }
        for (Way way : Way.OF_PARTS) {
            int terms = x.terms();
            CHECK.equal(way.name() + " of one below it", terms, way.make(x, highest - 1, highest - 1));
        }
    }

    private static void lowOnesBehindAHighOne() {
        CHECK.sentence("of those that it is made of");
        LayeredActs x = holding(1);
        int highest = rising(x, Way.OF_PARTS.get(0), 0, 0);
        CHECK.failsFull("one above the highest", () -> x.then(0, 0, highest));
        CHECK.equal("a low one, made later", 30, x.then(0, 0, 0));
        CHECK.equal("heights above the low one", 28, rising(x, Way.OF_PARTS.get(0), 1, 30));
    }

    private static void operandsThatAreNumbers() {
        CHECK.sentence("An OPERAND is a number");
        LayeredActs x = Make.under(0, 1, 2, LayeredActs.NONE);
        for (int n : new int[] {-1, 8, MIN, MAX, 0, -2, -3}) {
            CHECK.told("give " + n, n + "@5[] |", x, x.give(false, n));
            CHECK.told("write " + n, "5@" + n + "[] |", x, x.write(false, n));
            CHECK.told("say " + n, n + "@5[" + n + "] |", x, x.say(false, n));
            CHECK.told("fail " + n, "!" + n + " |", x, x.fail(false, n));
        }
        for (int n : new int[] {-1, 8, MIN, MAX}) {
            int terms = x.terms();
            CHECK.equal("times " + n, terms, x.times(false, n, 0));
        }
    }

    private static void operandsThatAreNames() {
        CHECK.sentence("if it is named, the number of the NAME (0 .. 7); named, and x is no NAME");
        LayeredActs x = holding(1);
        for (int n : NO_NAMES) {
            CHECK.failsOutside("give(true, " + n + ")", () -> x.give(true, n));
            CHECK.failsOutside("write(true, " + n + ")", () -> x.write(true, n));
            CHECK.failsOutside("say(true, " + n + ")", () -> x.say(true, n));
            CHECK.failsOutside("fail(true, " + n + ")", () -> x.fail(true, n));
            CHECK.failsOutside("times(true, " + n + ", 0)", () -> x.times(true, n, 0));
        }
        CHECK.equal("terms() behind wrong names", 1, x.terms());
        for (int n = 0; n < 8; n++) {
            CHECK.equal("give(true, " + n + ")", 5 * n + 1, x.give(true, n));
            CHECK.equal("write(true, " + n + ")", 5 * n + 2, x.write(true, n));
            CHECK.equal("say(true, " + n + ")", 5 * n + 3, x.say(true, n));
            CHECK.equal("fail(true, " + n + ")", 5 * n + 4, x.fail(true, n));
            CHECK.equal("times(true, " + n + ", 0)", 5 * n + 5, x.times(true, n, 0));
        }
    }

    private static void ofTakesNames() {
        CHECK.sentence("of: IndexOutOfBoundsException: NAMES");
        LayeredActs x = new LayeredActs();
        for (int n : NO_NAMES) {
            CHECK.failsOutside("of(" + n + ", 0, 0)", () -> x.of(n, 0, 0));
            CHECK.failsOutside("of(0, " + n + ", 0)", () -> x.of(0, n, 0));
            CHECK.failsOutside("of(" + n + ", " + n + ", 0)", () -> x.of(n, n, 0));
        }
        CHECK.equal("terms() behind wrong names", 0, x.terms());
        for (int n = 0; n < 8; n++) {
            CHECK.equal("of(" + n + ", " + (7 - n) + ", 0)", n, x.of(n, 7 - n, 0));
        }
    }

    private static void ofTakesFiveOps() {
        CHECK.sentence("IllegalArgumentException: op is not 0 .. 4");
        LayeredActs x = new LayeredActs();
        for (int op : new int[] {-1, 5, MIN, MAX}) {
            CHECK.failsArgument("of(0, 0, " + op + ")", () -> x.of(0, 0, op));
        }
        CHECK.equal("terms() behind wrong ops", 0, x.terms());
        for (int op = 0; op <= 4; op++) {
            CHECK.equal("of(0, 0, " + op + ")", op, x.of(0, 0, op));
        }
    }

    private static void namesOfThenSavedWhen() {
        CHECK.sentence("then, saved, when: IndexOutOfBoundsException: TERMS, NAME");
        LayeredActs x = holding(1);
        for (int n : NO_NAMES) {
            CHECK.failsOutside("then(0, " + n + ", 0)", () -> x.then(0, n, 0));
            CHECK.failsOutside("saved(0, " + n + ", 0)", () -> x.saved(0, n, 0));
            CHECK.failsOutside("when(" + n + ", 0, 0)", () -> x.when(n, 0, 0));
        }
        CHECK.equal("terms() behind wrong names", 1, x.terms());
        for (int n = 0; n < 8; n++) {
            CHECK.equal("then(0, " + n + ", 0)", 3 * n + 1, x.then(0, n, 0));
            CHECK.equal("saved(0, " + n + ", 0)", 3 * n + 2, x.saved(0, n, 0));
            CHECK.equal("when(" + n + ", 0, 0)", 3 * n + 3, x.when(n, 0, 0));
        }
    }

    private static void asTakesThreeKinds() {
        CHECK.sentence("ONCE (kind 0), HEARD (1), HIDDEN (2); IllegalArgumentException: kind");
        LayeredActs x = holding(1);
        for (int kind : new int[] {-1, 3, MIN, MAX}) {
            CHECK.failsArgument("as(" + kind + ", 0)", () -> x.as(kind, 0));
        }
        CHECK.equal("terms() behind wrong kinds", 1, x.terms());
        for (int kind = 0; kind <= 2; kind++) {
            CHECK.equal("as(" + kind + ", 0)", kind + 1, x.as(kind, 0));
        }
    }

    private static void needsOfEachTerm() {
        CHECK.sentence("READ, WRITE: STATE; SAY, HEARD, HIDDEN: LOG; FAIL, SAVED: ERROR; NONE, EITHER, ONCE: CHOICE");
        for (Way way : Way.ALL) {
            LayeredActs x = holding(1);
            CHECK.equal("needs of " + way.name(), way.needs(), x.needs(way.make(x, 0, 0)));
        }
    }

    private static void needsOfParts() {
        CHECK.sentence("Which LAYERS a TERM needs (itself, or one that it is made of)");
        for (Way way : Way.OF_PARTS) {
            for (Way below : Way.OF_NONE) {
                for (int place = 0; place < way.parts(); place++) {
                    LayeredActs x = holding(1);
                    int part = below.make(x, 0, 0);
                    int whole = way.makeAt(x, place, part, 0);
                    String what = way.name() + " of " + below.name();
                    CHECK.equal("needs of " + what, way.needs() | below.needs(), x.needs(whole));
                    CHECK.equal("needs of a part of " + what, below.needs(), x.needs(part));
                }
            }
        }
        LayeredActs x = new LayeredActs();
        int all = x.then(x.then(x.read(), 0, x.say(false, 1)), 0, x.when(0, x.fail(false, 2), x.none()));
        CHECK.equal("needs of all, far below", STATE | LOG | ERROR | CHOICE, x.needs(x.times(false, 0, x.times(false, 0, all))));
        CHECK.equal("needs of a part that is not done", STATE, x.needs(x.times(false, 0, 0)));
    }

    private static void needsOfNoTerm() {
        CHECK.sentence("needs: IndexOutOfBoundsException");
        LayeredActs x = holding(2);
        for (int t : new int[] {-1, 2, 79, 80, MIN, MAX}) {
            CHECK.failsOutside("needs(" + t + ")", () -> x.needs(t));
        }
        LayeredActs full = holding(80);
        CHECK.equal("needs(79)", 0, full.needs(79));
        CHECK.failsOutside("needs(80)", () -> full.needs(80));
    }

    private static void howManyTerms() {
        CHECK.sentence("How many TERMS there are");
        LayeredActs x = new LayeredActs();
        CHECK.equal("terms() of a new one", 0, x.terms());
        for (int i = 1; i <= 80; i++) {
            x.give(false, 0);
            CHECK.equal("terms()", i, x.terms());
        }
        CHECK.failsFull("one more", x::read);
        CHECK.equal("terms() when full", 80, x.terms());
        x.order(0, 1, 2, 3);
        x.run(79, 0, 1);
        CHECK.equal("terms() behind a run", 80, x.terms());
    }
}
