/** Names, where they have which numbers, and what is reckoned of them: promises 2, 3 and 10 to 13. */
public final class NamesTest {
    private static final int NONE = LayeredActs.NONE, OUT = LayeredActs.OUT;
    private static final int ERROR = 2, CHOICE = 3;
    private static final int PLUS = 0, MINUS = 1, PRODUCT = 2, LESS = 3, SAME = 4;
    private static final int MIN = Integer.MIN_VALUE, MAX = Integer.MAX_VALUE;
    private static final Check CHECK = new Check("NamesTest");

    private NamesTest() {
    }

    public static void main(String[] args) {
        zeroAtFirst();
        zeroAtFirstInEachRun();
        eachHasItsOwnNumber();
        operandsTellTheirNumbers();
        thenGivesItInItsSecondPart();
        theInnerOneAndTheOuterOne();
        savedGivesItInItsSecondPart();
        aSharedErrorTakesThemAlong();
        timesGivesNone();
        sums();
        differences();
        products();
        less();
        same();
        CHECK.end();
    }

    private static LayeredActs plain() {
        return Make.under(NONE, NONE, NONE, NONE);
    }

    private static void zeroAtFirst() {
        CHECK.sentence("NAMES 0 .. 7 have numbers, 0 at first");
        LayeredActs x = plain();
        for (int n = 0; n < 8; n++) {
            CHECK.told("name " + n, "0 |", x, x.give(true, n));
        }
    }

    private static void zeroAtFirstInEachRun() {
        CHECK.sentence("0 at first, in each RUN");
        LayeredActs x = Make.under(CHOICE, ERROR, NONE, NONE);
        int name = x.give(true, 0);
        int zero = x.give(false, 0);
        int one = x.give(false, 1);
        CHECK.told("a run that gives it 1", "1 |", x, x.then(one, 0, name));
        CHECK.told("the next run", "0 |", x, name);
        CHECK.told("a run that is ended there", "ENDED 8 |", x, x.then(one, 0, x.fail(false, 8)));
        CHECK.told("behind the ended one", "0 |", x, name);
        CHECK.equal("a run that is out there", OUT, x.run(x.then(one, 0, x.times(false, 8, one)), 0, 5));
        CHECK.told("behind the one that is out", "0 |", x, name);
        int given = x.then(one, 0, zero);
        CHECK.holds("in the second run of alike", x.alike(given, name, 0, 9));
        int isOut = x.then(one, 0, x.times(false, 8, one));
        CHECK.holds("alike with one that is out", !x.alike(isOut, name, 0, 5));
        CHECK.told("behind alike", "0 |", x, name);
    }

    private static void eachHasItsOwnNumber() {
        CHECK.sentence("NAMES 0 .. 7 have numbers, each its own");
        for (int asked = 0; asked < 8; asked++) {
            LayeredActs x = plain();
            int term = x.give(true, asked);
            for (int n = 0; n < 8; n++) {
                term = x.then(x.give(false, 10 + n), n, term);
            }
            CHECK.told("name " + asked + " of all", (10 + asked) + " |", x, term);
            for (int n = 0; n < 8; n++) {
                String want = n == asked ? "12 |" : "0 |";
                CHECK.told("name " + asked + " when " + n + " is 12", want, x, x.then(x.give(false, 12), n, x.give(true, asked)));
            }
        }
    }

    private static void operandsTellTheirNumbers() {
        CHECK.sentence("if it is named, the number of the NAME (0 .. 7) that it tells");
        for (int n = 0; n < 8; n++) {
            LayeredActs x = Make.under(0, 1, 2, NONE);
            int three = x.give(false, 3);
            CHECK.told("give name " + n, "3@5[] |", x, x.then(three, n, x.give(true, n)));
            CHECK.told("write name " + n, "5@3[] |", x, x.then(three, n, x.write(true, n)));
            CHECK.told("say name " + n, "3@5[3] |", x, x.then(three, n, x.say(true, n)));
            CHECK.told("fail with name " + n, "!3 |", x, x.then(three, n, x.fail(true, n)));
            CHECK.told("times name " + n, "9@5[9,9,9] |", x, x.then(three, n, x.times(true, n, x.say(false, 9))));
        }
    }

    private static void thenGivesItInItsSecondPart() {
        CHECK.sentence("a NAME that a TERM gives a number has it in the part told, and nowhere else (THEN)");
        for (int n = 0; n < 8; n++) {
            LayeredActs x = plain();
            int one = x.give(false, 1);
            int name = x.give(true, n);
            CHECK.told("in the second part", "1 |", x, x.then(one, n, name));
            CHECK.told("not in the first part", "0 |", x, x.then(x.then(name, (n + 1) % 8, name), n, name));
            CHECK.told("not behind the whole", "0 |", x, x.then(x.then(one, n, one), (n + 1) % 8, name));
            x.order(CHOICE, NONE, NONE, NONE);
            CHECK.told("not in the other choice", "1 0 |", x, x.either(x.then(one, n, name), name));
        }
    }

    private static void theInnerOneAndTheOuterOne() {
        CHECK.sentence("has it in the part told, and nowhere else (one inside the other)");
        LayeredActs x = plain();
        int one = x.give(false, 1);
        int name = x.give(true, 0);
        int inner = x.then(x.give(false, 9), 0, name);
        CHECK.told("the inner one in the inner part", "9 |", x, x.then(one, 0, inner));
        CHECK.told("the outer one behind the inner part", "1 |", x, x.then(one, 0, Make.seq(x, inner, name)));
        CHECK.told("none behind the whole", "0 |", x, Make.seq(x, x.then(one, 0, inner), name));
        CHECK.told("the outer one in the inner first part", "1 |", x, x.then(one, 0, x.then(name, 0, name)));
        x.order(CHOICE, NONE, NONE, NONE);
        int two = x.either(one, x.give(false, 2));
        int deep = x.then(two, 0, x.either(x.then(x.give(false, 9), 0, name), name));
        CHECK.told("of each result its own", "9 1 9 2 |", x, deep);
    }

    private static void savedGivesItInItsSecondPart() {
        CHECK.sentence("a NAME that a TERM gives a number has it in the part told, and nowhere else (SAVED)");
        for (int n = 0; n < 8; n++) {
            LayeredActs x = Make.under(ERROR, CHOICE, NONE, NONE);
            int name = x.give(true, n);
            int failed = x.fail(false, 6);
            int inFirst = x.then(name, (n + 1) % 8, x.fail(true, (n + 1) % 8));
            for (int shared = 0; shared <= 1; shared++) {
                x.order(shared == 1 ? CHOICE : ERROR, shared == 1 ? ERROR : CHOICE, NONE, NONE);
                CHECK.told("in the second part", "6 |", x, x.saved(failed, n, name));
                CHECK.told("not in the first part", "0 |", x, x.saved(inFirst, n, name));
                CHECK.told("not behind the whole", "0 |", x, x.then(x.saved(failed, n, name), (n + 1) % 8, name));
                CHECK.told("not without an error", "0 |", x, x.saved(name, n, failed));
                CHECK.told("the outer one behind it", "4 |", x,
                        x.then(x.give(false, 4), n, x.then(x.saved(failed, n, name), (n + 1) % 8, name)));
            }
        }
    }

    private static void aSharedErrorTakesThemAlong() {
        CHECK.sentence("in the part told, and nowhere else (an ERROR ends all that is under way)");
        LayeredActs x = Make.under(CHOICE, ERROR, NONE, NONE);
        int deep = x.then(x.give(false, 1), 0, x.then(x.give(false, 2), 1, x.fail(false, 3)));
        int names = x.then(x.of(0, 1, PLUS), 4, x.of(4, 2, PLUS));
        CHECK.told("the names of what ended are gone", "3 |", x, x.saved(deep, 2, names));
        CHECK.told("those around are there", "43 |", x, x.then(x.give(false, 40), 1, x.saved(deep, 2, names)));
        CHECK.told("the error's is gone behind", "0 |", x, Make.seq(x, x.saved(deep, 2, names), x.give(true, 2)));
    }

    private static void timesGivesNone() {
        CHECK.sentence("TIMES: as THEN does (no NAME)");
        for (int n = 0; n < 8; n++) {
            LayeredActs x = plain();
            int twice = x.of(n, n, PLUS);
            CHECK.told("name " + n, "6 |", x, x.then(x.give(false, 3), n, x.times(false, 3, twice)));
            CHECK.told("name " + n + ", 0", "0 |", x, x.times(false, 2, x.then(x.give(false, 3), (n + 1) % 8, twice)));
        }
    }

    private static void reckoned(int p, int q, int op, int want) {
        LayeredActs x = plain();
        int asked = x.then(x.give(false, p), 0, x.then(x.give(false, q), 7, x.of(0, 7, op)));
        CHECK.told("op " + op + " of " + p + ", " + q, want + " |", x, asked);
        int turned = x.then(x.give(false, p), 7, x.then(x.give(false, q), 0, x.of(7, 0, op)));
        CHECK.told("op " + op + " of " + p + ", " + q + ", other names", want + " |", x, turned);
    }

    private static void sums() {
        CHECK.sentence("0 p + q (32 bits, going round)");
        reckoned(3, 4, PLUS, 7);
        reckoned(MAX, 1, PLUS, MIN);
        reckoned(1, MAX, PLUS, MIN);
        reckoned(MIN, -1, PLUS, MAX);
        reckoned(MIN, MIN, PLUS, 0);
        reckoned(MAX, MAX, PLUS, -2);
        reckoned(MIN, MAX, PLUS, -1);
        LayeredActs x = plain();
        CHECK.told("one name twice", "8 |", x, x.then(x.give(false, 4), 5, x.of(5, 5, PLUS)));
    }

    private static void differences() {
        CHECK.sentence("1 p - q (32 bits, going round)");
        reckoned(3, 4, MINUS, -1);
        reckoned(4, 3, MINUS, 1);
        reckoned(MIN, 1, MINUS, MAX);
        reckoned(0, MIN, MINUS, MIN);
        reckoned(MAX, -1, MINUS, MIN);
        reckoned(MAX, MIN, MINUS, -1);
    }

    private static void products() {
        CHECK.sentence("2 p * q (32 bits, going round)");
        reckoned(3, -4, PRODUCT, -12);
        reckoned(65536, 65536, PRODUCT, 0);
        reckoned(65536, 32768, PRODUCT, MIN);
        reckoned(MIN, -1, PRODUCT, MIN);
        reckoned(MAX, MAX, PRODUCT, 1);
        reckoned(MAX, 2, PRODUCT, -2);
        reckoned(46341, 46341, PRODUCT, -2147479015);
        reckoned(MIN, 0, PRODUCT, 0);
    }

    private static void less() {
        CHECK.sentence("3 whether p is less than q (1, 0)");
        reckoned(3, 4, LESS, 1);
        reckoned(4, 4, LESS, 0);
        reckoned(5, 4, LESS, 0);
        reckoned(-1, 0, LESS, 1);
        reckoned(0, -1, LESS, 0);
        reckoned(MIN, 1, LESS, 1);
        reckoned(MAX, -1, LESS, 0);
        reckoned(MIN, MAX, LESS, 1);
        reckoned(MAX, MIN, LESS, 0);
        reckoned(MIN, MIN, LESS, 0);
    }

    private static void same() {
        CHECK.sentence("4 whether they are the same (1, 0)");
        reckoned(4, 4, SAME, 1);
        reckoned(4, 5, SAME, 0);
        reckoned(5, 4, SAME, 0);
        reckoned(MIN, MIN, SAME, 1);
        reckoned(MAX, MIN, SAME, 0);
        reckoned(1, -1, SAME, 0);
        reckoned(1000, 1000, SAME, 1);
    }
}
