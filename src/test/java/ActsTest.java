/** What each act does, under the orders that matter for it, and at its edges: promises 2 to 14. */
public final class ActsTest {
    private static final int NONE = LayeredActs.NONE;
    private static final int STATE = 0, LOG = 1, ERROR = 2, CHOICE = 3;
    private static final int ONCE = 0, HEARD = 1, HIDDEN = 2;
    private static final int MIN = Integer.MIN_VALUE, MAX = Integer.MAX_VALUE;
    // Those that run() tells besides are numbers as all others are where an act has them.
    private static final int[] NUMBERS = {0, 1, -1, -2, -3, 8, MIN, MAX};
    private static final Check CHECK = new Check("ActsTest");

    private ActsTest() {
    }

    public static void main(String[] args) {
        give();
        read();
        write();
        say();
        theLogIsEmptyAtFirst();
        failOwn();
        failShared();
        upToASaved();
        none();
        either();
        eitherBeginsAsItWas();
        then();
        thenOfNone();
        thenOfErrors();
        savedWithoutChoice();
        savedWithOwnErrors();
        savedOwnLogs();
        savedOfNone();
        savedWithASharedError();
        nothingToSave();
        when();
        timesOfANumber();
        timesOfAName();
        timesNone();
        timesOfErrors();
        timesGoesRoundByRound();
        once();
        heard();
        heardNothing();
        heardErrors();
        hidden();
        hiddenErrors();
        hiddenNotWithASharedError();
        CHECK.end();
    }

    private static void give() {
        CHECK.sentence("GIVE x: x");
        LayeredActs x = Make.under(NONE, NONE, NONE, NONE);
        for (int n : NUMBERS) {
            CHECK.told("give " + n, n + " |", x, x.give(false, n));
        }
        x.order(STATE, LOG, NONE, NONE);
        CHECK.told("give with state and log", "1@5[] |", x, x.give(false, 1));
    }

    private static void read() {
        CHECK.sentence("READ: the STATE");
        LayeredActs x = Make.under(STATE, NONE, NONE, NONE);
        int read = x.read();
        for (int n : NUMBERS) {
            x.order(STATE, NONE, NONE, NONE);
            CHECK.equal("read of " + n, n + "@" + n + " |", Told.run(x, read, n, 1));
            x.order(CHOICE, STATE, NONE, NONE);
            CHECK.equal("read of a shared " + n, n + " |@" + n, Told.run(x, read, n, 1));
        }
    }

    private static void write() {
        CHECK.sentence("WRITE x: the STATE is x then: what it was");
        LayeredActs x = new LayeredActs();
        for (int n : NUMBERS) {
            int write = x.write(false, n);
            x.order(STATE, NONE, NONE, NONE);
            CHECK.told("write " + n, "5@" + n + " |", x, write);
            CHECK.equal("write " + n + " over itself", n + "@" + n + " |", Told.run(x, write, n, 1));
            x.order(CHOICE, STATE, NONE, NONE);
            CHECK.told("a shared write of " + n, "5 |@" + n, x, write);
        }
        x.order(STATE, NONE, NONE, NONE);
        int write = x.write(false, 8);
        CHECK.told("write, read", "8@8 |", x, Make.seq(x, write, x.read()));
        CHECK.told("write, write", "8@7 |", x, Make.seq(x, write, x.write(false, 7)));
        CHECK.told("the next run has its own state", "5@5 |", x, x.read());
    }

    private static void say() {
        CHECK.sentence("SAY x: x comes behind the LOG: x");
        LayeredActs x = Make.under(NONE, LOG, NONE, NONE);
        for (int n : NUMBERS) {
            CHECK.told("say " + n, n + "[" + n + "] |", x, x.say(false, n));
        }
        int say = x.say(false, 4);
        CHECK.told("say twice", "6[4,6] |", x, Make.seq(x, say, x.say(false, 6)));
        x.order(CHOICE, LOG, NONE, NONE);
        CHECK.told("a shared log", "4 |[4]", x, say);
        CHECK.told("a shared log of two choices", "4 4 |[4,4]", x, x.either(say, say));
        x.order(LOG, CHOICE, NONE, NONE);
        CHECK.told("own logs of two choices", "4[4] 4[4] |", x, x.either(say, say));
    }

    private static void theLogIsEmptyAtFirst() {
        CHECK.sentence("The LOG, a row of numbers, empty at first");
        LayeredActs x = new LayeredActs();
        int give = x.give(false, 1);
        int say = x.say(false, 4);
        x.order(LOG, CHOICE, NONE, NONE);
        CHECK.told("own", "1[] |", x, give);
        CHECK.told("a run that says", "4[4] |", x, say);
        CHECK.told("own, in the next run", "1[] |", x, give);
        x.order(CHOICE, LOG, NONE, NONE);
        CHECK.told("shared", "1 |[]", x, give);
        CHECK.told("a run that says, shared", "4 |[4]", x, say);
        CHECK.told("shared, in the next run", "1 |[]", x, give);
        CHECK.told("shared, no results", "|[]", x, x.none());
        CHECK.equal("a run that says and is out", LayeredActs.OUT, x.run(x.either(say, give), 0, 2));
        CHECK.told("shared, behind it", "4 |[4]", x, say);
        x.alike(say, x.either(say, say), 0, 9);
        CHECK.told("shared, behind alike", "4 |[4]", x, say);
    }

    private static int failing(LayeredActs x) {
        return Make.seq(x, x.write(false, 8), Make.seq(x, x.say(false, 4), x.fail(false, 9)));
    }

    private static void failOwn() {
        CHECK.sentence("FAIL x: an ERROR with x (OWN: a RESULT may be an ERROR)");
        LayeredActs x = Make.under(ERROR, NONE, NONE, NONE);
        for (int n : NUMBERS) {
            CHECK.told("fail " + n, "!" + n + " |", x, x.fail(false, n));
        }
        int acts = failing(x);
        x.order(ERROR, STATE, LOG, NONE);
        CHECK.told("an error keeps both", "!9@8[4] |", x, acts);
        x.order(STATE, ERROR, LOG, NONE);
        CHECK.told("an error loses the state", "!9[4] |", x, acts);
        x.order(LOG, ERROR, STATE, NONE);
        CHECK.told("an error loses the log", "!9@8 |", x, acts);
        x.order(STATE, LOG, ERROR, CHOICE);
        CHECK.told("an own error loses both", "!9 |", x, acts);
        x.order(ERROR, CHOICE, STATE, LOG);
        CHECK.told("an own error, both shared", "!9 |@8[4]", x, acts);
        CHECK.told("others are what they are", "1 !9 2 |@8[4]", x,
                x.either(x.give(false, 1), x.either(acts, x.give(false, 2))));
    }

    private static void failShared() {
        CHECK.sentence("SHARED: an ERROR ends all that is under way");
        LayeredActs x = Make.under(CHOICE, ERROR, NONE, NONE);
        for (int n : NUMBERS) {
            CHECK.told("fail " + n, "ENDED " + n + " |", x, x.fail(false, n));
        }
        int acts = failing(x);
        x.order(CHOICE, ERROR, STATE, LOG);
        CHECK.told("a shared error keeps both", "ENDED 9 |@8[4]", x, acts);
        x.order(CHOICE, STATE, ERROR, LOG);
        CHECK.told("a shared error loses the state", "ENDED 9 |[4]", x, acts);
        x.order(CHOICE, LOG, ERROR, STATE);
        CHECK.told("a shared error loses the log", "ENDED 9 |@8", x, acts);
        x.order(STATE, LOG, CHOICE, ERROR);
        CHECK.told("a shared error, both own", "ENDED 9 |", x, acts);
        int after = x.either(x.give(false, 1), x.either(x.then(x.times(false, 2, acts), 0, acts), x.fail(false, 2)));
        CHECK.told("from deep inside", "ENDED 9 |", x, after);
        x.order(CHOICE, ERROR, STATE, LOG);
        CHECK.told("nothing is done behind it", "ENDED 9 |@8[4]", x, after);
    }

    private static void upToASaved() {
        CHECK.sentence("SHARED: an ERROR ends all that is under way, up to a SAVED");
        LayeredActs x = Make.under(CHOICE, ERROR, NONE, NONE);
        int failed = x.fail(false, 1);
        int saved = x.saved(x.either(x.give(false, 9), failed), 0, x.give(true, 0));
        CHECK.told("what is outside goes on", "3 1 4 |", x, x.either(x.give(false, 3), x.either(saved, x.give(false, 4))));
        CHECK.told("the inner one saves", "1 |", x, x.saved(saved, 0, x.give(false, 7)));
        int again = x.saved(failed, 0, x.fail(false, 2));
        CHECK.told("what saves fails, too", "ENDED 2 |", x, again);
        CHECK.told("the outer one saves that", "2 |", x, x.saved(again, 5, x.give(true, 5)));
        CHECK.told("what comes behind is not saved", "ENDED 1 |", x, Make.seq(x, saved, failed));
    }

    private static void none() {
        CHECK.sentence("NONE: no RESULTS");
        LayeredActs x = Make.under(STATE, LOG, CHOICE, NONE);
        int none = x.none();
        CHECK.told("none", "|", x, none);
        CHECK.equal("its steps", 1, x.shared(1));
        CHECK.told("none twice", "|", x, x.either(none, none));
        CHECK.told("none ahead", "1@5[] |", x, x.either(none, x.give(false, 1)));
        CHECK.told("none behind", "1@5[] |", x, x.either(x.give(false, 1), none));
        x.order(CHOICE, LOG, STATE, NONE);
        CHECK.told("what comes ahead of none is done", "|@6[]", x, Make.seq(x, x.write(false, 6), none));
    }

    private static int eitherOfTwo(LayeredActs x) {
        int first = Make.seq(x, x.say(false, 1), x.write(false, 6));
        return x.either(first, Make.seq(x, x.say(false, 2), x.write(false, 7)));
    }

    private static void either() {
        CHECK.sentence("EITHER t, u: t's RESULTS, then u's");
        LayeredActs x = Make.under(CHOICE, NONE, NONE, NONE);
        int one = x.give(false, 1);
        int two = x.either(one, x.give(false, 2));
        CHECK.told("two", "1 2 |", x, two);
        CHECK.told("two and one", "1 2 1 |", x, x.either(two, one));
        CHECK.told("one and two", "1 1 2 |", x, x.either(one, two));
        CHECK.told("two, twice", "1 2 1 2 |", x, x.either(two, two));
    }

    private static void eitherBeginsAsItWas() {
        CHECK.sentence("t is DONE wholly, then u, with the OWN STATE and LOG as they were ahead of t");
        LayeredActs x = new LayeredActs();
        int both = eitherOfTwo(x);
        x.order(STATE, LOG, CHOICE, NONE);
        CHECK.told("both own", "5@6[1] 5@7[2] |", x, both);
        x.order(CHOICE, STATE, LOG, NONE);
        CHECK.told("both shared", "5 6 |@7[1,2]", x, both);
        x.order(STATE, CHOICE, LOG, NONE);
        CHECK.told("own state, shared log", "5@6 5@7 |[1,2]", x, both);
        x.order(LOG, CHOICE, STATE, NONE);
        CHECK.told("own log, shared state", "5[1] 6[2] |@7", x, both);
        x.order(LOG, STATE, CHOICE, NONE);
        int ahead = Make.seq(x, x.say(false, 9), x.write(false, 3));
        CHECK.told("with what is ahead of both", "3@6[9,1] 3@7[9,2] |", x, Make.seq(x, ahead, both));
        CHECK.told("when t has no results", "5@5[] |", x, x.either(Make.seq(x, ahead, x.none()), x.read()));
    }

    private static void then() {
        CHECK.sentence("THEN: t is DONE wholly; then, for each RESULT of it, in order, u is DONE (with its STATE and LOG, if OWN)");
        LayeredActs x = Make.under(STATE, LOG, CHOICE, NONE);
        int two = x.either(x.give(false, 1), x.give(false, 2));
        int echo = x.either(x.say(true, 0), x.write(true, 0));
        int all = x.then(two, 0, echo);
        CHECK.told("both own", "1@5[1] 5@1[] 2@5[2] 5@2[] |", x, all);
        x.order(CHOICE, LOG, STATE, NONE);
        CHECK.told("both shared", "1 5 2 1 |@2[1,2]", x, all);
        LayeredActs y = Make.under(STATE, CHOICE, NONE, NONE);
        int writes = y.either(y.write(false, 6), y.write(false, 7));
        CHECK.told("the states go on", "6@6 7@7 |", y, Make.seq(y, writes, y.read()));
        y.order(CHOICE, STATE, NONE, NONE);
        CHECK.told("the first part is done wholly", "7 7 |@7", y, Make.seq(y, writes, y.read()));
    }

    private static void thenOfNone() {
        CHECK.sentence("THEN: for each RESULT of it (there may be none)");
        LayeredActs x = Make.under(CHOICE, STATE, NONE, NONE);
        int none = x.none();
        CHECK.told("u is not done", "|@5", x, Make.seq(x, none, x.write(false, 6)));
        CHECK.equal("its steps", 2, x.shared(1));
        int two = x.either(x.give(false, 1), x.give(false, 2));
        CHECK.told("u has none", "|@5", x, Make.seq(x, two, none));
        CHECK.equal("its steps", 6, x.shared(1));
        CHECK.told("u has none for one of them", "4 |@5", x, x.then(x.either(x.give(false, 0), x.give(false, 1)), 0,
                x.when(0, x.give(false, 4), none)));
    }

    private static void thenOfErrors() {
        CHECK.sentence("A RESULT that is an ERROR stays in its place as it is, u is not DONE for it");
        LayeredActs x = Make.under(ERROR, CHOICE, NONE, NONE);
        int mixed = x.either(x.fail(false, 1), x.either(x.give(false, 2), x.fail(false, 3)));
        CHECK.told("in their places", "!1 2 2 !3 |", x, x.then(mixed, 0, x.either(x.give(true, 0), x.give(true, 0))));
        CHECK.equal("its steps", 9, x.shared(1));
        CHECK.told("an error alone", "!1 |", x, x.then(x.fail(false, 1), 0, x.give(false, 5)));
        CHECK.equal("its steps", 2, x.shared(1));
        CHECK.told("none for the others", "!1 !3 |", x, Make.seq(x, mixed, x.none()));
        CHECK.told("errors of u", "!1 !2 !3 |", x, x.then(mixed, 0, x.fail(true, 0)));
        x.order(ERROR, STATE, LOG, CHOICE);
        int marked = x.either(failing(x), x.write(false, 6));
        CHECK.told("with its state and log", "!9@8[4] 0@0[] |", x,
                Make.seq(x, marked, Make.seq(x, x.write(false, 0), x.read())));
    }

    /** Tells the error's number, and leaves a mark in state and log. */
    private static int rescue(LayeredActs x) {
        return Make.seq(x, x.say(true, 2), x.then(x.read(), 3, Make.seq(x, x.say(true, 3), x.give(true, 2))));
    }

    private static void savedWithoutChoice() {
        CHECK.sentence("u begins with the STATE that was there when SAVED began, if STATE is OUTSIDE ERROR, else with the ERROR's");
        LayeredActs x = new LayeredActs();
        int saved = Make.seq(x, Make.seq(x, x.say(false, 1), x.write(false, 6)), x.saved(failing(x), 2, rescue(x)));
        x.order(ERROR, STATE, LOG, NONE);
        CHECK.told("saved, both kept", "9@8[1,4,9,8] |", x, saved);
        x.order(STATE, ERROR, LOG, NONE);
        CHECK.told("saved, the state lost", "9@6[1,4,9,6] |", x, saved);
        x.order(LOG, ERROR, STATE, NONE);
        CHECK.told("saved, the log lost", "9@8[1,9,8] |", x, saved);
        x.order(LOG, STATE, ERROR, NONE);
        CHECK.told("saved, both lost", "9@6[1,9,6] |", x, saved);
        CHECK.told("what saves fails, too", "!1 |", x, x.saved(x.fail(false, 0), 2, x.fail(false, 1)));
    }

    private static void savedWithOwnErrors() {
        CHECK.sentence("With OWN ERRORS, for each RESULT that is one, in its place the RESULTS of u");
        LayeredActs x = new LayeredActs();
        int many = x.either(Make.seq(x, x.write(false, 1), x.fail(false, 10)),
                x.either(x.write(false, 2), Make.seq(x, x.write(false, 3), x.fail(false, 30))));
        int saved = x.saved(many, 2, x.either(x.give(true, 2), x.read()));
        x.order(ERROR, STATE, CHOICE, NONE);
        CHECK.told("own state kept", "10@1 1@1 5@2 30@3 3@3 |", x, saved);
        x.order(STATE, ERROR, CHOICE, NONE);
        CHECK.told("own state lost", "10@5 5@5 5@2 30@5 5@5 |", x, saved);
        x.order(ERROR, CHOICE, STATE, NONE);
        CHECK.told("shared state as it is then", "10 3 1 30 3 |@3", x, saved);
        x.order(ERROR, CHOICE, NONE, NONE);
        int every = x.either(x.fail(false, 1), x.fail(false, 2));
        CHECK.told("every one of them", "1 2 |", x, x.saved(every, 2, x.give(true, 2)));
        CHECK.told("errors of u", "!1 !2 |", x, x.saved(every, 2, x.fail(true, 2)));
    }

    private static void savedOwnLogs() {
        CHECK.sentence("With the LOG likewise");
        LayeredActs y = Make.under(LOG, ERROR, CHOICE, NONE);
        int two = y.either(Make.seq(y, y.say(false, 1), y.fail(false, 2)), y.say(false, 3));
        int lost = y.saved(two, 0, y.say(true, 0));
        CHECK.told("own log lost", "2[2] 3[3] |", y, lost);
        CHECK.told("own log lost, but for what was ahead", "2[8,2] 3[8,3] |", y, Make.seq(y, y.say(false, 8), lost));
        y.order(ERROR, LOG, CHOICE, NONE);
        CHECK.told("own log kept", "2[1,2] 3[3] |", y, lost);
        y.order(ERROR, CHOICE, LOG, NONE);
        CHECK.told("shared log as it is then", "2 3 |[1,3,2]", y, lost);
        int again = y.saved(two, 0, y.fail(false, 7));
        CHECK.told("an error of what saves is one", "!7 3 |[1,3]", y, again);
        CHECK.told("an error that is saved by none", "3 |[1,3]", y, y.saved(again, 0, y.none()));
    }

    private static void savedOfNone() {
        CHECK.sentence("those that are none stay as they are");
        LayeredActs x = Make.under(ERROR, CHOICE, STATE, NONE);
        int rescue = x.write(false, 7);
        CHECK.told("no results", "|@5", x, x.saved(x.none(), 0, rescue));
        CHECK.equal("its steps", 2, x.shared(1));
        CHECK.told("no errors", "1 2 |@5", x, x.saved(x.either(x.give(false, 1), x.give(false, 2)), 0, rescue));
        CHECK.equal("its steps", 4, x.shared(1));
        CHECK.told("an error ahead", "5 2 |@7", x, x.saved(x.either(x.fail(false, 1), x.give(false, 2)), 0, rescue));
        CHECK.equal("its steps", 5, x.shared(1));
        CHECK.told("an error behind", "1 5 |@7", x, x.saved(x.either(x.give(false, 1), x.fail(false, 2)), 0, rescue));
        x.order(ERROR, STATE, CHOICE, NONE);
        CHECK.told("with their states", "5@1 5@7 5@3 |", x, x.saved(
                x.either(x.write(false, 1), x.either(x.fail(false, 2), x.write(false, 3))), 0, rescue));
    }

    private static void savedWithASharedError() {
        CHECK.sentence("with a SHARED ERROR that ended t: the RESULTS of u alone, likewise");
        LayeredActs x = new LayeredActs();
        int saved = Make.seq(x, Make.seq(x, x.say(false, 1), x.write(false, 6)),
                x.saved(x.either(x.give(false, 0), failing(x)), 2, rescue(x)));
        x.order(CHOICE, ERROR, STATE, LOG);
        CHECK.told("both kept", "9 |@8[1,4,9,8]", x, saved);
        x.order(CHOICE, STATE, ERROR, LOG);
        CHECK.told("the state lost", "9 |@6[1,4,9,6]", x, saved);
        x.order(CHOICE, LOG, ERROR, STATE);
        CHECK.told("the log lost", "9 |@8[1,9,8]", x, saved);
        x.order(CHOICE, STATE, LOG, ERROR);
        CHECK.told("both lost", "9 |@6[1,9,6]", x, saved);
        x.order(LOG, STATE, CHOICE, ERROR);
        CHECK.told("own ones, lost", "9@6[1,9,6] |", x, saved);
        x.order(STATE, CHOICE, ERROR, LOG);
        CHECK.told("own state, shared log kept", "9@6 |[1,4,9,6]", x, saved);
        x.order(CHOICE, ERROR, NONE, NONE);
        int lastOne = x.either(x.give(false, 3), x.either(x.give(false, 4), x.fail(false, 1)));
        CHECK.told("none of t's", "1 1 |", x, x.saved(lastOne, 0, x.either(x.give(true, 0), x.give(true, 0))));
        CHECK.told("u has none", "|", x, x.saved(lastOne, 0, x.none()));
    }

    private static void nothingToSave() {
        CHECK.sentence("a SHARED ERROR that ended t (it may not have)");
        LayeredActs x = Make.under(CHOICE, STATE, ERROR, NONE);
        int rescue = x.write(false, 7);
        CHECK.told("two results", "3 4 |@5", x, x.saved(x.either(x.give(false, 3), x.give(false, 4)), 2, rescue));
        CHECK.equal("its steps", 4, x.shared(1));
        CHECK.told("no results", "|@5", x, x.saved(x.none(), 2, rescue));
        CHECK.told("what t has written stays", "5 |@6", x, x.saved(x.write(false, 6), 2, rescue));
    }

    private static void when() {
        CHECK.sentence("WHEN name, t, u: t if NAME name is not 0, else u");
        LayeredActs x = Make.under(STATE, NONE, NONE, NONE);
        int when = x.when(0, x.write(false, 1), x.write(false, 2));
        CHECK.told("when 0", "5@2 |", x, when);
        CHECK.equal("its steps", 2, x.shared(1));
        for (int n : new int[] {1, -1, 2, MIN, MAX}) {
            CHECK.told("when " + n, "5@1 |", x, x.then(x.give(false, n), 0, when));
            CHECK.equal("its steps", 4, x.shared(1));
        }
        CHECK.told("when 0 is given", "5@2 |", x, x.then(x.give(false, 0), 0, when));
        CHECK.told("when another name is 1", "5@2 |", x, x.then(x.give(false, 1), 1, when));
        for (int n = 0; n < 8; n++) {
            int of = x.when(n, x.give(false, 3), x.give(false, 4));
            CHECK.told("when name " + n + " is 1", "3@5 |", x, x.then(x.give(false, 1), n, of));
        }
    }

    /** So many sixes. */
    private static String sixes(int many) {
        return "[" + "6,".repeat(many).replaceAll(",$", "") + "]";
    }

    private static void timesOfANumber() {
        CHECK.sentence("TIMES x, t: t is DONE x times (0 below 0; 8 above 8)");
        LayeredActs x = Make.under(LOG, NONE, NONE, NONE);
        int say = x.say(false, 6);
        for (int n = 1; n <= 8; n++) {
            CHECK.told(n + " times", "6" + sixes(n) + " |", x, x.times(false, n, say));
            CHECK.equal("its steps", n + 1, x.shared(1));
        }
        for (int n : new int[] {9, 10, 256, MAX}) {
            CHECK.told(n + " times", "6" + sixes(8) + " |", x, x.times(false, n, say));
            CHECK.equal("its steps", 9, x.shared(1));
        }
        for (int n : new int[] {-1, -8, -256, MIN}) {
            CHECK.told(n + " times", "0[] |", x, x.times(false, n, say));
            CHECK.equal("its steps", 1, x.shared(1));
        }
    }

    private static void timesOfAName() {
        CHECK.sentence("TIMES x, t: x an OPERAND that is named");
        LayeredActs x = Make.under(LOG, NONE, NONE, NONE);
        int times = x.times(true, 4, x.say(false, 6));
        int[][] numbers = {{0, 0}, {1, 1}, {7, 7}, {8, 8}, {9, 8}, {MAX, 8}, {-1, 0}, {MIN, 0}};
        for (int[] n : numbers) {
            String want = (n[1] == 0 ? "0" : "6") + sixes(n[1]) + " |";
            CHECK.told(n[0] + " times", want, x, x.then(x.give(false, n[0]), 4, times));
        }
        CHECK.told("a name that is 0 at first", "0[] |", x, times);
    }

    private static void timesNone() {
        CHECK.sentence("TIMES: 0, if none");
        LayeredActs x = Make.under(STATE, LOG, CHOICE, NONE);
        int give = x.give(false, 3);
        CHECK.told("0 times", "0@5[] |", x, x.times(false, 0, give));
        CHECK.equal("its steps", 1, x.shared(1));
        CHECK.told("0 times none", "0@5[] |", x, x.times(false, 0, x.none()));
        CHECK.told("0 times, behind acts", "0@6[1] |", x,
                Make.seq(x, Make.seq(x, x.say(false, 1), x.write(false, 6)), x.times(false, 0, give)));
        CHECK.told("once", "3@5[] |", x, x.times(false, 1, give));
        CHECK.told("once none", "|", x, x.times(false, 1, x.none()));
        CHECK.told("8 times none", "|", x, x.times(false, 8, x.none()));
        CHECK.equal("its steps", 2, x.shared(1));
    }

    private static void timesOfErrors() {
        CHECK.sentence("TIMES: each for each RESULT of the one before, as THEN does");
        LayeredActs y = Make.under(ERROR, CHOICE, NONE, NONE);
        int mixed = y.either(y.fail(false, 7), y.give(false, 1));
        CHECK.told("errors stay, the rest goes on", "!7 !7 !7 1 |", y, y.times(false, 3, mixed));
        CHECK.told("an error at once", "!7 |", y, y.times(false, 8, y.fail(false, 7)));
        CHECK.equal("its steps", 2, y.shared(1));
        y.order(CHOICE, ERROR, STATE, NONE);
        int failsLater = y.then(y.write(false, 0), 0, y.when(0, y.give(false, 2), y.fail(false, 7)));
        CHECK.told("a shared error, once", "2 |@0", y, y.times(false, 1, failsLater));
        CHECK.told("a shared error, twice", "ENDED 7 |@0", y, y.times(false, 2, failsLater));
    }

    private static void timesGoesRoundByRound() {
        CHECK.sentence("TIMES: as THEN does: t is DONE wholly");
        LayeredActs x = Make.under(CHOICE, LOG, NONE, NONE);
        int two = x.either(x.say(false, 1), x.say(false, 2));
        CHECK.told("three rounds", "1 2 1 2 1 2 1 2 |[1,2,1,2,1,2,1,2,1,2,1,2,1,2]", x, x.times(false, 3, two));
        LayeredActs y = Make.under(CHOICE, STATE, LOG, NONE);
        int next = y.then(y.read(), 0, y.then(y.give(false, 1), 1, y.then(y.of(0, 1, 0), 2,
                Make.seq(y, y.write(true, 2), y.say(true, 2)))));
        int either = y.either(next, y.give(false, 0));
        CHECK.told("each round is done wholly", "9 0 10 0 11 0 12 0 |@12[6,7,8,9,10,11,12]", y, y.times(false, 3, either));
    }

    private static void once() {
        CHECK.sentence("ONCE t: t's first RESULT alone (t is DONE wholly)");
        LayeredActs x = Make.under(STATE, CHOICE, LOG, NONE);
        int writes = eitherOfTwo(x);
        CHECK.told("t is done wholly", "5@6 |[1,2]", x, x.as(ONCE, writes));
        CHECK.told("of none", "|[]", x, x.as(ONCE, x.none()));
        CHECK.told("of one", "3@5 |[]", x, x.as(ONCE, x.give(false, 3)));
        CHECK.told("of none, behind another", "3@5 |[]", x, x.either(x.give(false, 3), x.as(ONCE, x.none())));
        CHECK.told("only its own results", "3@5 5@6 |[1,2]", x, x.either(x.give(false, 3), x.as(ONCE, writes)));
        x.order(ERROR, CHOICE, NONE, NONE);
        CHECK.told("of an error", "!4 |", x, x.as(ONCE, x.either(x.fail(false, 4), x.give(false, 1))));
        CHECK.told("of one ahead of an error", "1 |", x, x.as(ONCE, x.either(x.give(false, 1), x.fail(false, 4))));
        x.order(CHOICE, ERROR, NONE, NONE);
        CHECK.told("with a shared error", "ENDED 4 |", x, x.as(ONCE, x.either(x.give(false, 1), x.fail(false, 4))));
    }

    private static void heard() {
        CHECK.sentence("HEARD t: each number is by how many numbers its LOG (SHARED: the LOG, when t is DONE) is longer");
        LayeredActs x = new LayeredActs();
        int one = x.say(false, 30);
        int said = x.either(x.give(false, 9), x.either(one, Make.seq(x, one, one)));
        int heard = Make.seq(x, one, x.as(HEARD, said));
        x.order(LOG, CHOICE, NONE, NONE);
        CHECK.told("own", "0[30] 1[30,30] 2[30,30,30] |", x, heard);
        x.order(CHOICE, LOG, NONE, NONE);
        CHECK.told("shared", "3 3 3 |[30,30,30,30]", x, heard);
        int sixty = x.then(x.times(false, 7, x.times(false, 8, one)), 0, x.times(false, 4, one));
        CHECK.equal("sixty numbers, shared", 1, x.run(x.as(HEARD, sixty), 0, 2000));
        CHECK.equal("their count, shared", 60, x.result(0, 0));
        x.order(LOG, CHOICE, NONE, NONE);
        CHECK.equal("sixty numbers", 1, x.run(x.as(HEARD, sixty), 0, 2000));
        CHECK.equal("their count", 60, x.result(0, 0));
    }

    private static void heardNothing() {
        CHECK.sentence("HEARD t: longer than when HEARD began (it may not be)");
        LayeredActs x = Make.under(LOG, CHOICE, NONE, NONE);
        int say = x.say(false, 2);
        int silent = x.as(HEARD, x.give(false, 5));
        CHECK.told("nothing, own", "0[] |", x, silent);
        CHECK.told("nothing behind a number, own", "0[2] |", x, Make.seq(x, say, silent));
        CHECK.told("hidden ones, own", "0[2] |", x, Make.seq(x, say, x.as(HEARD, x.as(HIDDEN, say))));
        CHECK.told("no results", "|", x, x.as(HEARD, x.none()));
        x.order(CHOICE, LOG, NONE, NONE);
        CHECK.told("nothing, shared", "0 |[]", x, silent);
        CHECK.told("nothing behind a number, shared", "0 |[2]", x, Make.seq(x, say, silent));
        CHECK.told("hidden ones, shared", "0 |[2]", x, Make.seq(x, say, x.as(HEARD, x.as(HIDDEN, say))));
    }

    private static void heardErrors() {
        CHECK.sentence("(An ERROR's number stays with HEARD");
        LayeredActs x = new LayeredActs();
        int one = x.say(false, 30);
        int failed = x.as(HEARD, Make.seq(x, one, x.either(x.fail(false, 8), one)));
        x.order(ERROR, LOG, CHOICE, NONE);
        CHECK.told("own", "!8[30] 2[30,30] |", x, failed);
        x.order(ERROR, CHOICE, LOG, NONE);
        CHECK.told("shared log", "!8 2 |[30,30]", x, failed);
        x.order(LOG, ERROR, CHOICE, NONE);
        CHECK.told("a log that is lost", "!8 2[30,30] |", x, failed);
        x.order(CHOICE, ERROR, LOG, NONE);
        CHECK.told("a shared error", "ENDED 8 |[30]", x, failed);
    }

    private static void hidden() {
        CHECK.sentence("HIDDEN t: as t, but each LOG (SHARED: the LOG, when t is DONE) becomes what it was when HIDDEN began");
        LayeredActs x = new LayeredActs();
        int one = x.say(false, 30);
        int said = x.either(x.give(false, 9), Make.seq(x, x.say(false, 31), x.say(false, 32)));
        int hidden = Make.seq(x, one, x.as(HIDDEN, said));
        x.order(LOG, CHOICE, NONE, NONE);
        CHECK.told("own", "9[30] 32[30] |", x, hidden);
        CHECK.told("own, empty", "9[] 32[] |", x, x.as(HIDDEN, said));
        CHECK.told("own, and on", "30[30,30] 30[30,30] |", x, Make.seq(x, hidden, one));
        CHECK.told("own, and heard", "1[30] 1[30] |", x, x.as(HEARD, hidden));
        CHECK.told("no results", "|", x, x.as(HIDDEN, x.none()));
        x.order(CHOICE, LOG, NONE, NONE);
        CHECK.told("shared", "9 32 |[30]", x, hidden);
        CHECK.told("shared, empty", "9 32 |[]", x, x.as(HIDDEN, said));
        CHECK.told("shared, and on", "30 30 |[30,30,30]", x, Make.seq(x, hidden, one));
        CHECK.told("shared, no results", "|[]", x, x.as(HIDDEN, Make.seq(x, one, x.none())));
    }

    private static int hiddenFailing(LayeredActs x) {
        int one = x.say(false, 30);
        return Make.seq(x, x.say(false, 1), x.as(HIDDEN, x.either(one, Make.seq(x, one, x.fail(false, 8)))));
    }

    private static void hiddenErrors() {
        CHECK.sentence("its LOG with HIDDEN becomes so, too");
        LayeredActs x = new LayeredActs();
        int failed = hiddenFailing(x);
        x.order(ERROR, LOG, CHOICE, NONE);
        CHECK.told("an error's log", "30[1] !8[1] |", x, failed);
        x.order(ERROR, LOG, NONE, NONE);
        int alone = Make.seq(x, x.say(false, 1), x.as(HIDDEN, Make.seq(x, x.say(false, 2), x.fail(false, 8))));
        CHECK.told("an error alone", "!8[1] |", x, alone);
        CHECK.told("an error that is saved then", "3[1,3] |", x, x.saved(alone, 0, x.say(false, 3)));
        x.order(ERROR, CHOICE, LOG, NONE);
        CHECK.told("shared log, an own error", "30 !8 |[1]", x, failed);
    }

    private static void hiddenNotWithASharedError() {
        CHECK.sentence("HIDDEN t: not with a SHARED ERROR that ends t");
        LayeredActs x = Make.under(CHOICE, ERROR, LOG, NONE);
        int failed = hiddenFailing(x);
        CHECK.told("a shared error", "ENDED 8 |[1,30,30]", x, failed);
        CHECK.told("one that is saved", "0 |[1,30,30]", x, x.saved(failed, 0, x.give(false, 0)));
        CHECK.told("one that is saved inside", "0 |[]", x, x.as(HIDDEN, x.saved(failed, 0, x.give(false, 0))));
    }
}
