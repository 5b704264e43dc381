/** What each act does, under the orders that matter for it: promises 2 to 14. */
public final class ActsTest {
    private static final int NONE = LayeredActs.NONE;
    private static final int STATE = 0, LOG = 1, ERROR = 2, CHOICE = 3;
    private static final int ONCE = 0, HEARD = 1, HIDDEN = 2;
    private static final int MIN = Integer.MIN_VALUE, MAX = Integer.MAX_VALUE;
    private static final Check CHECK = new Check("ActsTest");

    private ActsTest() {
    }

    public static void main(String[] args) {
        give();
        of();
        readAndWrite();
        say();
        failOwnAndShared();
        eitherAndNone();
        then();
        namesHoldInTheirPartAlone();
        savedWithoutChoice();
        savedWithOwnErrors();
        savedWithASharedError();
        namesBehindASharedError();
        when();
        times();
        timesGoesRoundByRound();
        once();
        heard();
        hidden();
        CHECK.end();
    }

    private static void give() {
        LayeredActs x = Make.under(NONE, NONE, NONE, NONE);
        CHECK.told("give a number", "-7 |", x, x.give(false, -7));
        CHECK.told("give a number that is no name", "8 |", x, x.give(false, 8));
        CHECK.told("give a name, 0 at first", "0 |", x, x.give(true, 3));
        CHECK.told("give a name", "12 |", x, x.then(x.give(false, 12), 3, x.give(true, 3)));
        CHECK.told("give another name", "0 |", x, x.then(x.give(false, 12), 3, x.give(true, 2)));
        x.order(STATE, LOG, NONE, NONE);
        CHECK.told("give with state and log", "1@5[] |", x, x.give(false, 1));
    }

    private static int ofTwo(LayeredActs x, int p, int q, int op) {
        return x.then(x.give(false, p), 1, x.then(x.give(false, q), 6, x.of(1, 6, op)));
    }

    private static void of() {
        LayeredActs x = Make.under(NONE, NONE, NONE, NONE);
        CHECK.told("3 + 4", "7 |", x, ofTwo(x, 3, 4, 0));
        CHECK.told("+ goes round", MIN + " |", x, ofTwo(x, MAX, 1, 0));
        CHECK.told("3 - 4", "-1 |", x, ofTwo(x, 3, 4, 1));
        CHECK.told("- goes round", MAX + " |", x, ofTwo(x, MIN, 1, 1));
        CHECK.told("3 * -4", "-12 |", x, ofTwo(x, 3, -4, 2));
        LayeredActs y = Make.under(NONE, NONE, NONE, NONE);
        CHECK.told("* goes round", "0 |", y, ofTwo(y, 65536, 65536, 2));
        CHECK.told("3 < 4", "1 |", y, ofTwo(y, 3, 4, 3));
        CHECK.told("4 < 4", "0 |", y, ofTwo(y, 4, 4, 3));
        CHECK.told("MAX < MIN", "0 |", y, ofTwo(y, MAX, MIN, 3));
        CHECK.told("MIN < MAX", "1 |", y, ofTwo(y, MIN, MAX, 3));
        CHECK.told("4 = 4", "1 |", y, ofTwo(y, 4, 4, 4));
        CHECK.told("4 = 5", "0 |", y, ofTwo(y, 4, 5, 4));
        CHECK.told("one name twice", "1 |", y, y.of(2, 2, 4));
    }

    private static void readAndWrite() {
        LayeredActs x = Make.under(STATE, NONE, NONE, NONE);
        int write = x.write(false, 8);
        CHECK.told("read", "5@5 |", x, x.read());
        CHECK.told("write tells what it was", "5@8 |", x, write);
        CHECK.told("write, read", "8@8 |", x, Make.seq(x, write, x.read()));
        CHECK.told("write a name", "7@6 |", x, x.then(x.give(false, 6), 2, Make.seq(x, x.write(false, 7), x.write(true, 2))));
        x.order(CHOICE, STATE, NONE, NONE);
        CHECK.told("a shared write", "5 |@8", x, write);
    }

    private static void say() {
        LayeredActs x = Make.under(NONE, LOG, NONE, NONE);
        int say = x.say(false, 4);
        CHECK.told("say", "4[4] |", x, say);
        CHECK.told("say twice", "6[4,6] |", x, Make.seq(x, say, x.say(false, 6)));
        CHECK.told("say a name", "9[9] |", x, x.then(x.give(false, 9), 5, x.say(true, 5)));
        x.order(CHOICE, LOG, NONE, NONE);
        CHECK.told("a shared log", "4 |[4]", x, say);
        CHECK.told("a shared log of two choices", "4 4 |[4,4]", x, x.either(say, say));
        x.order(LOG, CHOICE, NONE, NONE);
        CHECK.told("own logs of two choices", "4[4] 4[4] |", x, x.either(say, say));
    }

    private static void failOwnAndShared() {
        LayeredActs x = new LayeredActs();
        int acts = Make.seq(x, x.write(false, 8), Make.seq(x, x.say(false, 4), x.fail(false, 9)));
        int named = x.then(x.give(false, 3), 4, x.fail(true, 4));
        x.order(ERROR, STATE, LOG, NONE);
        CHECK.told("an error keeps both", "!9@8[4] |", x, acts);
        CHECK.told("an error of a name", "!3@5[] |", x, named);
        x.order(STATE, ERROR, LOG, NONE);
        CHECK.told("an error loses the state", "!9[4] |", x, acts);
        x.order(LOG, ERROR, STATE, NONE);
        CHECK.told("an error loses the log", "!9@8 |", x, acts);
        x.order(STATE, LOG, ERROR, CHOICE);
        CHECK.told("an own error loses both", "!9 |", x, acts);
        x.order(ERROR, CHOICE, STATE, LOG);
        CHECK.told("an own error, both shared", "!9 |@8[4]", x, acts);
        x.order(CHOICE, ERROR, STATE, LOG);
        CHECK.told("a shared error keeps both", "ENDED 9 |@8[4]", x, acts);
        x.order(CHOICE, STATE, ERROR, LOG);
        CHECK.told("a shared error loses the state", "ENDED 9 |[4]", x, acts);
        x.order(CHOICE, LOG, ERROR, STATE);
        CHECK.told("a shared error loses the log", "ENDED 9 |@8", x, acts);
        x.order(STATE, LOG, CHOICE, ERROR);
        CHECK.told("a shared error, both own", "ENDED 9 |", x, acts);
        CHECK.told("a shared error of a name", "ENDED 3 |", x, named);
        CHECK.told("a shared error ends what is under way", "ENDED 3 |", x, x.either(x.give(false, 1), x.then(named, 0, acts)));
    }

    private static void eitherAndNone() {
        LayeredActs x = new LayeredActs();
        int first = Make.seq(x, x.say(false, 1), x.write(false, 6));
        int second = Make.seq(x, x.say(false, 2), x.write(false, 7));
        int both = x.either(first, second);
        x.order(STATE, LOG, CHOICE, NONE);
        CHECK.told("none", "|", x, x.none());
        CHECK.told("either, both own", "5@6[1] 5@7[2] |", x, both);
        x.order(CHOICE, STATE, LOG, NONE);
        CHECK.told("either, both shared", "5 6 |@7[1,2]", x, both);
        x.order(STATE, CHOICE, LOG, NONE);
        CHECK.told("either, own state, shared log", "5@6 5@7 |[1,2]", x, both);
        x.order(LOG, CHOICE, STATE, NONE);
        CHECK.told("either, own log, shared state", "5[1] 6[2] |@7", x, both);
        CHECK.told("none and another", "5[1] |@6", x, x.either(x.none(), first));
        CHECK.told("another and none", "5[1] |@6", x, x.either(first, x.none()));
        CHECK.told("what comes ahead of none is done", "|@6", x, Make.seq(x, first, x.none()));
    }

    private static void then() {
        LayeredActs x = Make.under(STATE, LOG, CHOICE, NONE);
        int two = x.either(x.give(false, 1), x.give(false, 2));
        int echo = x.either(x.say(true, 0), x.write(true, 0));
        int all = x.then(two, 0, echo);
        CHECK.told("then, both own", "1@5[1] 5@1[] 2@5[2] 5@2[] |", x, all);
        x.order(CHOICE, LOG, STATE, NONE);
        CHECK.told("then, both shared", "1 5 2 1 |@2[1,2]", x, all);
        LayeredActs y = Make.under(STATE, CHOICE, NONE, NONE);
        int writes = y.either(y.write(false, 6), y.write(false, 7));
        CHECK.told("the states go on", "6@6 7@7 |", y, Make.seq(y, writes, y.read()));
        y.order(CHOICE, STATE, NONE, NONE);
        CHECK.told("the first part is done wholly", "7 7 |@7", y, Make.seq(y, writes, y.read()));
        y.order(ERROR, CHOICE, NONE, NONE);
        int mixed = y.either(y.fail(false, 1), y.either(y.give(false, 2), y.fail(false, 3)));
        CHECK.told("errors stay in their places", "!1 2 2 !3 |", y, y.then(mixed, 0, y.either(y.give(true, 0), y.give(true, 0))));
        CHECK.equal("no part is done for errors", 9, y.shared(1));
    }

    private static void namesHoldInTheirPartAlone() {
        LayeredActs x = Make.under(NONE, NONE, NONE, NONE);
        int one = x.give(false, 1);
        int name = x.give(true, 0);
        int inner = x.then(x.give(false, 9), 0, name);
        CHECK.told("not in the first part", "0 |", x, x.then(name, 0, name));
        CHECK.told("the inner one in the inner part", "9 |", x, x.then(one, 0, inner));
        CHECK.told("the outer one behind the inner part", "1 |", x, x.then(one, 0, Make.seq(x, inner, name)));
        CHECK.told("none behind the whole", "0 |", x, Make.seq(x, x.then(one, 0, inner), name));
        CHECK.told("names of their own", "1 |", x, x.then(one, 0, x.then(x.give(false, 4), 1, name)));
        CHECK.told("again 0 in the next run", "0 |", x, name);
    }

    private static int failing(LayeredActs x) {
        return Make.seq(x, x.write(false, 8), Make.seq(x, x.say(false, 4), x.fail(false, 9)));
    }

    /** Tells the error's number, and leaves a mark in state and log. */
    private static int rescue(LayeredActs x) {
        return Make.seq(x, x.say(true, 2), x.then(x.read(), 3, Make.seq(x, x.say(true, 3), x.give(true, 2))));
    }

    private static void savedWithoutChoice() {
        LayeredActs x = new LayeredActs();
        int saved = Make.seq(x, x.say(false, 1), x.saved(failing(x), 2, rescue(x)));
        x.order(ERROR, STATE, LOG, NONE);
        CHECK.told("saved, both kept", "9@8[1,4,9,8] |", x, saved);
        x.order(STATE, ERROR, LOG, NONE);
        CHECK.told("saved, the state lost", "9@5[1,4,9,5] |", x, saved);
        x.order(LOG, ERROR, STATE, NONE);
        CHECK.told("saved, the log lost", "9@8[1,9,8] |", x, saved);
        x.order(LOG, STATE, ERROR, NONE);
        CHECK.told("saved, both lost", "9@5[1,9,5] |", x, saved);
        CHECK.told("nothing to save", "4@5[4] |", x, x.saved(x.say(false, 4), 2, rescue(x)));
        CHECK.told("what saves fails, too", "!1 |", x, x.saved(x.fail(false, 0), 2, x.fail(false, 1)));
    }

    private static void savedWithOwnErrors() {
        LayeredActs x = new LayeredActs();
        int many = x.either(Make.seq(x, x.write(false, 1), x.fail(false, 10)),
                x.either(x.write(false, 2), Make.seq(x, x.write(false, 3), x.fail(false, 30))));
        int saved = x.saved(many, 2, x.either(x.give(true, 2), x.read()));
        x.order(ERROR, STATE, CHOICE, NONE);
        CHECK.told("own state kept", "10@1 1@1 5@2 30@3 3@3 |", x, saved);
        x.order(STATE, ERROR, CHOICE, NONE);
        CHECK.told("own state lost", "10@5 5@5 5@2 30@5 5@5 |", x, saved);
        x.order(ERROR, CHOICE, STATE, NONE);
        CHECK.told("shared state as it is then", "10 3 1 30 3 |@3", x, saved);
        LayeredActs y = Make.under(LOG, ERROR, CHOICE, NONE);
        int lost = y.saved(y.either(Make.seq(y, y.say(false, 1), y.fail(false, 2)), y.say(false, 3)), 0, y.say(true, 0));
        CHECK.told("own log lost", "2[2] 3[3] |", y, lost);
        y.order(ERROR, LOG, CHOICE, NONE);
        CHECK.told("own log kept", "2[1,2] 3[3] |", y, lost);
        y.order(ERROR, CHOICE, LOG, NONE);
        CHECK.told("shared log as it is then", "2 3 |[1,3,2]", y, lost);
        int again = y.saved(y.either(Make.seq(y, y.say(false, 1), y.fail(false, 2)), y.say(false, 3)), 0, y.fail(false, 7));
        CHECK.told("an error of what saves is one", "!7 3 |[1,3]", y, again);
        CHECK.told("an error that is saved by none", "3 |[1,3]", y, y.saved(again, 0, y.none()));
    }

    private static void savedWithASharedError() {
        LayeredActs x = new LayeredActs();
        int saved = Make.seq(x, x.say(false, 1), x.saved(x.either(x.give(false, 0), failing(x)), 2, rescue(x)));
        x.order(CHOICE, ERROR, STATE, LOG);
        CHECK.told("shared, both kept", "9 |@8[1,4,9,8]", x, saved);
        x.order(CHOICE, STATE, ERROR, LOG);
        CHECK.told("shared, the state lost", "9 |@5[1,4,9,5]", x, saved);
        x.order(CHOICE, LOG, ERROR, STATE);
        CHECK.told("shared, the log lost", "9 |@8[1,9,8]", x, saved);
        x.order(CHOICE, STATE, LOG, ERROR);
        CHECK.told("shared, both lost", "9 |@5[1,9,5]", x, saved);
        x.order(LOG, STATE, CHOICE, ERROR);
        CHECK.told("own ones, lost", "9@5[1,9,5] |", x, saved);
        x.order(STATE, CHOICE, ERROR, LOG);
        CHECK.told("own state, shared log kept", "9@5 |[1,4,9,5]", x, saved);
        int quiet = x.saved(x.either(x.give(false, 3), x.give(false, 4)), 2, x.fail(false, 1));
        CHECK.told("nothing to save", "3@5 4@5 |[]", x, quiet);
        int twice = x.saved(x.saved(x.fail(false, 1), 2, x.fail(false, 2)), 2, x.give(true, 2));
        CHECK.told("what saves fails, and is saved", "2@5 |[]", x, twice);
        CHECK.told("what comes behind is not saved", "ENDED 6 |[]", x, Make.seq(x, quiet, x.fail(false, 6)));
    }

    private static void namesBehindASharedError() {
        LayeredActs x = Make.under(CHOICE, ERROR, NONE, NONE);
        int deep = x.then(x.give(false, 1), 0, x.then(x.give(false, 2), 1, x.fail(false, 3)));
        int names = x.then(x.of(0, 1, 0), 4, x.of(4, 2, 0));
        CHECK.told("the names of what ended are gone", "3 |", x, x.saved(deep, 2, names));
        CHECK.told("those around are there", "43 |", x, x.then(x.give(false, 40), 1, x.saved(deep, 2, names)));
        CHECK.told("the error's is gone behind", "0 |", x, Make.seq(x, x.saved(deep, 2, names), x.give(true, 2)));
    }

    private static void when() {
        LayeredActs x = Make.under(STATE, NONE, NONE, NONE);
        int one = x.write(false, 1);
        int when = x.when(0, one, x.write(false, 2));
        CHECK.told("when 0", "5@2 |", x, when);
        CHECK.equal("its steps", 2, x.shared(1));
        CHECK.told("when 1", "5@1 |", x, x.then(x.give(false, 1), 0, when));
        CHECK.told("when -1", "5@1 |", x, x.then(x.give(false, -1), 0, when));
        CHECK.told("when another name is 1", "5@2 |", x, x.then(x.give(false, 1), 1, when));
    }

    private static void times() {
        LayeredActs x = Make.under(STATE, LOG, NONE, NONE);
        int more = x.then(x.read(), 0, Make.seq(x, x.write(true, 0), x.say(true, 0)));
        CHECK.told("0 times", "0@5[] |", x, x.times(false, 0, more));
        CHECK.equal("its steps", 1, x.shared(1));
        CHECK.told("-3 times", "0@5[] |", x, x.times(false, -3, more));
        CHECK.told("MIN times", "0@5[] |", x, x.times(false, MIN, more));
        CHECK.told("once", "5@5[5] |", x, x.times(false, 1, more));
        CHECK.told("twice", "5@5[5,5] |", x, x.times(false, 2, more));
        CHECK.equal("its steps", 11, x.shared(1));
        CHECK.told("8 times", "5@5[5,5,5,5,5,5,5,5] |", x, x.times(false, 8, more));
        CHECK.told("9 times", "5@5[5,5,5,5,5,5,5,5] |", x, x.times(false, 9, more));
        CHECK.told("MAX times", "5@5[5,5,5,5,5,5,5,5] |", x, x.times(false, MAX, more));
        CHECK.told("as a name says", "5@5[5,5,5] |", x, x.then(x.give(false, 3), 4, x.times(true, 4, more)));
        CHECK.told("as a name says, 0", "0@5[] |", x, x.times(true, 4, more));
        LayeredActs y = Make.under(ERROR, CHOICE, NONE, NONE);
        int mixed = y.either(y.fail(false, 7), y.give(false, 1));
        CHECK.told("errors stay, the rest goes on", "!7 !7 !7 1 |", y, y.times(false, 3, mixed));
        CHECK.told("none, again", "|", y, y.times(false, 8, y.none()));
        CHECK.equal("its steps", 2, y.shared(1));
    }

    private static void timesGoesRoundByRound() {
        LayeredActs x = Make.under(CHOICE, LOG, NONE, NONE);
        int two = x.either(x.say(false, 1), x.say(false, 2));
        CHECK.told("three rounds", "1 2 1 2 1 2 1 2 |[1,2,1,2,1,2,1,2,1,2,1,2,1,2]", x, x.times(false, 3, two));
        LayeredActs y = Make.under(CHOICE, STATE, LOG, NONE);
        int next = y.then(y.read(), 0, y.then(y.give(false, 1), 1, y.then(y.of(0, 1, 0), 2,
                Make.seq(y, y.write(true, 2), y.say(true, 2)))));
        int either = y.either(next, y.give(false, 0));
        CHECK.told("each round is done wholly", "9 0 10 0 11 0 12 0 |@12[6,7,8,9,10,11,12]", y, y.times(false, 3, either));
    }

    private static void once() {
        LayeredActs x = Make.under(STATE, CHOICE, LOG, NONE);
        int writes = x.either(Make.seq(x, x.say(false, 1), x.write(false, 6)), Make.seq(x, x.say(false, 2), x.write(false, 7)));
        CHECK.told("once, t is done wholly", "5@6 |[1,2]", x, x.as(ONCE, writes));
        CHECK.told("once of none", "|[]", x, x.as(ONCE, x.none()));
        CHECK.told("once of one", "3@5 |[]", x, x.as(ONCE, x.give(false, 3)));
        CHECK.told("only its own results", "3@5 5@6 |[1,2]", x, x.either(x.give(false, 3), x.as(ONCE, writes)));
        x.order(ERROR, CHOICE, NONE, NONE);
        CHECK.told("once of an error", "!4 |", x, x.as(ONCE, x.either(x.fail(false, 4), x.give(false, 1))));
        x.order(CHOICE, ERROR, NONE, NONE);
        CHECK.told("once with a shared error", "ENDED 4 |", x, x.as(ONCE, x.either(x.give(false, 1), x.fail(false, 4))));
    }

    private static void heard() {
        LayeredActs x = new LayeredActs();
        int one = x.say(false, 30);
        int said = x.either(x.give(false, 9), x.either(one, Make.seq(x, one, one)));
        int heard = Make.seq(x, one, x.as(HEARD, said));
        x.order(LOG, CHOICE, NONE, NONE);
        CHECK.told("heard, own", "0[30] 1[30,30] 2[30,30,30] |", x, heard);
        x.order(CHOICE, LOG, NONE, NONE);
        CHECK.told("heard, shared", "3 3 3 |[30,30,30,30]", x, heard);
        int failed = x.as(HEARD, Make.seq(x, one, x.either(x.fail(false, 8), one)));
        x.order(ERROR, LOG, CHOICE, NONE);
        CHECK.told("heard, an error's number stays", "!8[30] 2[30,30] |", x, failed);
        x.order(ERROR, CHOICE, LOG, NONE);
        CHECK.told("heard, shared, an error's number stays", "!8 2 |[30,30]", x, failed);
        x.order(CHOICE, ERROR, LOG, NONE);
        CHECK.told("heard, a shared error", "ENDED 8 |[30]", x, failed);
        CHECK.told("heard nothing", "0 |[]", x, x.as(HEARD, x.give(false, 5)));
    }

    private static void hidden() {
        LayeredActs x = new LayeredActs();
        int one = x.say(false, 30);
        int said = x.either(x.give(false, 9), Make.seq(x, x.say(false, 31), x.say(false, 32)));
        int hidden = Make.seq(x, one, x.as(HIDDEN, said));
        x.order(LOG, CHOICE, NONE, NONE);
        CHECK.told("hidden, own", "9[30] 32[30] |", x, hidden);
        CHECK.told("hidden, and on", "30[30,30] 30[30,30] |", x, Make.seq(x, hidden, one));
        CHECK.told("hidden, and heard", "1[30] 1[30] |", x, x.as(HEARD, hidden));
        x.order(CHOICE, LOG, NONE, NONE);
        CHECK.told("hidden, shared", "9 32 |[30]", x, hidden);
        CHECK.told("hidden, and on, shared", "30 30 |[30,30,30]", x, Make.seq(x, hidden, one));
        int failed = Make.seq(x, x.say(false, 1), x.as(HIDDEN, x.either(one, Make.seq(x, one, x.fail(false, 8)))));
        x.order(ERROR, LOG, CHOICE, NONE);
        CHECK.told("hidden, an error's log, too", "30[1] !8[1] |", x, failed);
        x.order(ERROR, CHOICE, LOG, NONE);
        CHECK.told("hidden, shared, an own error", "30 !8 |[1]", x, failed);
        x.order(CHOICE, ERROR, LOG, NONE);
        CHECK.told("hidden, not with a shared error", "ENDED 8 |[1,30,30]", x, failed);
        CHECK.told("nor when it is saved", "0 |[1,30,30]", x, x.saved(failed, 0, x.give(false, 0)));
    }
}
