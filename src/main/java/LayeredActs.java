/**
 * Acts that remember a number, write numbers down, fail, and choose, under layers whose order
 * decides what of it outlasts a failure, and what each choice has for itself.
 */
public final class LayeredActs {
    public static final int NONE = -1;
    public static final int ENDED = -2, OUT = -3;

    private static final int MOST_TERMS = 80;
    private static final int MOST_HEIGHT = 30;
    private static final int MOST_STEPS = 2000;
    private static final int MOST_RESULTS = 50;
    private static final int MOST_TIMES = 8;
    private static final int LONGEST_LOG = 60;
    private static final int NAMES = 8;
    private static final int NO_NAME = -1;
    private static final int STATE = 0, LOG = 1, ERROR = 2, CHOICE = 3;

    private final Term[] made = new Term[MOST_TERMS];
    private final Machine machine = new Machine();
    private final Outcome latest = new Outcome();
    // alike() has outcomes of its own, as result() and shared() must not tell of its runs.
    private final Outcome oneSide = new Outcome();
    private final Outcome otherSide = new Outcome();
    private int count;
    private Layering layering = new Layering(NONE, NONE, NONE, NONE);

    public LayeredActs() {
    }

    public int give(boolean named, int x) throws IndexOutOfBoundsException, UnsupportedOperationException {
        return keepAct(Kind.GIVE, named, x);
    }

    public int of(int p, int q, int op)
            throws IndexOutOfBoundsException, IllegalArgumentException, UnsupportedOperationException {
        requireName(p);
        requireName(q);
        if (op < 0 || op >= Kind.OPS) {
            throw new IllegalArgumentException("no such op");
        }
        return keep(new Term(Kind.PLUS + op, true, p, q, null, null));
    }

    public int read() throws UnsupportedOperationException {
        return keepAct(Kind.READ, false, 0);
    }

    public int write(boolean named, int x) throws IndexOutOfBoundsException, UnsupportedOperationException {
        return keepAct(Kind.WRITE, named, x);
    }

    public int say(boolean named, int x) throws IndexOutOfBoundsException, UnsupportedOperationException {
        return keepAct(Kind.SAY, named, x);
    }

    public int fail(boolean named, int x) throws IndexOutOfBoundsException, UnsupportedOperationException {
        return keepAct(Kind.FAIL, named, x);
    }

    public int none() throws UnsupportedOperationException {
        return keepAct(Kind.NOTHING, false, 0);
    }

    public int either(int t, int u) throws IndexOutOfBoundsException, UnsupportedOperationException {
        return keep(new Term(Kind.EITHER, false, 0, NO_NAME, termAt(t), termAt(u)));
    }

    public int then(int t, int name, int u) throws IndexOutOfBoundsException, UnsupportedOperationException {
        return keepNaming(Kind.THEN, name, t, u);
    }

    public int saved(int t, int name, int u) throws IndexOutOfBoundsException, UnsupportedOperationException {
        return keepNaming(Kind.SAVED, name, t, u);
    }

    public int when(int name, int t, int u) throws IndexOutOfBoundsException, UnsupportedOperationException {
        return keepNaming(Kind.WHEN, name, t, u);
    }

    public int times(boolean named, int x, int t) throws IndexOutOfBoundsException, UnsupportedOperationException {
        requireOperand(named, x);
        return keep(new Term(Kind.TIMES, named, x, NO_NAME, termAt(t), null));
    }

    public int as(int kind, int t)
            throws IndexOutOfBoundsException, IllegalArgumentException, UnsupportedOperationException {
        Term part = termAt(t);
        if (kind < 0 || kind >= Kind.WAYS) {
            throw new IllegalArgumentException("no such kind");
        }
        return keep(new Term(Kind.ONCE + kind, false, 0, NO_NAME, part, null));
    }

    public int order(int a, int b, int c, int d) throws IllegalArgumentException {
        int layers = withLayer(withLayer(withLayer(withLayer(0, a), b), c), d);
        layering = new Layering(a, b, c, d);
        return Integer.bitCount(layers);
    }

    public int needs(int t) throws IndexOutOfBoundsException {
        return termAt(t).layers;
    }

    public int run(int t, int state, int steps)
            throws IndexOutOfBoundsException, IllegalArgumentException, IllegalStateException {
        Term term = termAt(t);
        requireSteps(steps);
        requireLayers(term.layers);
        machine.carryOut(term, layering, state, steps, latest);
        return latest.answer;
    }

    public int result(int k, int what) throws IndexOutOfBoundsException, IllegalArgumentException {
        Row row = latest.rowOf(k);
        if (row == null) {
            throw new IndexOutOfBoundsException("no such RESULT");
        }
        return tellOf(row, what);
    }

    public int shared(int what) throws IllegalStateException, IllegalArgumentException {
        if (latest.answer == OUT) {
            throw new IllegalStateException("no RUN, or one that was OUT");
        }
        return tellOf(latest.common, what);
    }

    public boolean alike(int t, int u, int state, int steps)
            throws IndexOutOfBoundsException, IllegalArgumentException, IllegalStateException {
        Term one = termAt(t);
        Term other = termAt(u);
        requireSteps(steps);
        requireLayers(one.layers | other.layers);
        machine.carryOut(one, layering, state, steps, oneSide);
        machine.carryOut(other, layering, state, steps, otherSide);
        return oneSide.isLike(otherSide);
    }

    public int terms() {
        return count;
    }

    private int keepAct(int kind, boolean named, int x) {
        requireOperand(named, x);
        return keep(new Term(kind, named, x, NO_NAME, null, null));
    }

    private int keepNaming(int kind, int name, int t, int u) {
        requireName(name);
        return keep(new Term(kind, false, 0, name, termAt(t), termAt(u)));
    }

    private int keep(Term term) {
        if (count < 0 || count >= MOST_TERMS || term.height > MOST_HEIGHT) {
            throw new UnsupportedOperationException("too many TERMS, or too high a one");
        }
        made[count] = term;
        count++;
        return count - 1;
    }

    private Term termAt(int t) {
        Term term = t >= 0 && t < count && t < MOST_TERMS ? made[t] : null;
        if (term == null) {
            throw new IndexOutOfBoundsException("no such TERM");
        }
        return term;
    }

    private void requireOperand(boolean named, int x) {
        if (named) {
            requireName(x);
        }
    }

    private static void requireName(int name) {
        if (name < 0 || name >= NAMES) {
            throw new IndexOutOfBoundsException("no such NAME");
        }
    }

    private static void requireSteps(int steps) {
        if (steps < 1 || steps > MOST_STEPS) {
            throw new IllegalArgumentException("steps is not 1 .. 2000");
        }
    }

    private void requireLayers(int layers) {
        if ((layers & ~layering.layers) != 0) {
            throw new IllegalStateException("a LAYER that is needed is not in the ORDER");
        }
    }

    private static int withLayer(int layers, int layer) {
        if (layer == NONE) {
            return layers;
        }
        if (layer < STATE || layer > CHOICE || (layers & (1 << layer)) != 0) {
            throw new IllegalArgumentException("no such LAYER, or twice");
        }
        return layers | (1 << layer);
    }

    private static int tellOf(Row row, int what) {
        if (!row.tells(what)) {
            throw new IllegalArgumentException("nothing of that number is told");
        }
        return row.at(what);
    }

    /** What a TERM does. The five of OF and the three of as() stand in the order of their numbers there. */
    private static final class Kind {
        static final int GIVE = 0;
        static final int READ = 1;
        static final int WRITE = 2;
        static final int SAY = 3;
        static final int FAIL = 4;
        static final int NOTHING = 5;
        static final int EITHER = 6;
        static final int THEN = 7;
        static final int SAVED = 8;
        static final int WHEN = 9;
        static final int TIMES = 10;
        static final int ONCE = 11;
        static final int HEARD = 12;
        static final int HIDDEN = 13;
        static final int WAYS = 3;
        static final int PLUS = 14;
        static final int MINUS = 15;
        static final int PRODUCT = 16;
        static final int LESS = 17;
        static final int SAME = 18;
        static final int OPS = 5;

        private Kind() {
        }

        static int layersOf(int kind) {
            switch (kind) {
                case READ:
                case WRITE:
                    return 1 << STATE;
                case SAY:
                case HEARD:
                case HIDDEN:
                    return 1 << LOG;
                case FAIL:
                case SAVED:
                    return 1 << ERROR;
                case NOTHING:
                case EITHER:
                case ONCE:
                    return 1 << CHOICE;
                default:
                    return 0;
            }
        }
    }

    /** A TERM. Of OF, the OPERAND is the first NAME, and name the second one. */
    private static final class Term {
        final int kind;
        final boolean named;
        final int operand;
        final int name;
        final Term first;
        final Term second;
        final int height;
        final int layers;

        Term(int kind, boolean named, int operand, int name, Term first, Term second) {
            this.kind = kind;
            this.named = named;
            this.operand = operand;
            this.name = name;
            this.first = first;
            this.second = second;
            height = 1 + Math.max(heightOf(first), heightOf(second));
            layers = Kind.layersOf(kind) | layersOf(first) | layersOf(second);
        }

        private static int heightOf(Term part) {
            return part == null ? 0 : part.height;
        }

        private static int layersOf(Term part) {
            return part == null ? 0 : part.layers;
        }
    }

    /** What follows from an ORDER. */
    private static final class Layering {
        // Behind every place, so that a LAYER stands ahead of a CHOICE that is not there.
        private static final int NOWHERE = 4;

        final int layers;
        final boolean ownState;
        final boolean ownLog;
        final boolean ownError;
        final boolean sharedState;
        final boolean sharedLog;
        final boolean errorLosesState;
        final boolean errorLosesLog;

        Layering(int a, int b, int c, int d) {
            int state = placeOf(STATE, a, b, c, d);
            int log = placeOf(LOG, a, b, c, d);
            int error = placeOf(ERROR, a, b, c, d);
            int choice = placeOf(CHOICE, a, b, c, d);
            layers = bitAt(STATE, state) | bitAt(LOG, log) | bitAt(ERROR, error) | bitAt(CHOICE, choice);
            ownState = state < choice;
            ownLog = log < choice;
            ownError = error < choice;
            sharedState = choice < state && state != NOWHERE;
            sharedLog = choice < log && log != NOWHERE;
            errorLosesState = state < error && error != NOWHERE;
            errorLosesLog = log < error && error != NOWHERE;
        }

        private static int placeOf(int layer, int a, int b, int c, int d) {
            return a == layer ? 0 : b == layer ? 1 : c == layer ? 2 : d == layer ? 3 : NOWHERE;
        }

        private static int bitAt(int layer, int place) {
            return place == NOWHERE ? 0 : 1 << layer;
        }
    }

    /**
     * The LOGs of one RUN. A LOG is the number of its last entry, 0 if it is empty, and each entry
     * knows the one before: so many LOGs that begin alike need no copies.
     */
    private static final class Logs {
        static final int EMPTY = 0;
        // Each entry costs a STEP, so a RUN never makes more.
        private static final int ROOM = MOST_STEPS + 1;

        private final int[] number = new int[ROOM];
        private final int[] before = new int[ROOM];
        private final int[] length = new int[ROOM];
        private int used = 1;

        void clear() {
            used = 1;
        }

        private boolean has(int log) {
            return log > EMPTY && log < used && log < ROOM;
        }

        int lengthOf(int log) {
            return has(log) ? length[log] : 0;
        }

        int lastOf(int log) {
            return has(log) ? number[log] : 0;
        }

        int withoutLast(int log) {
            return has(log) ? before[log] : EMPTY;
        }

        /** The LOG with one number more, or NONE if it would be too long. */
        int with(int log, int x) {
            int longer = lengthOf(log) + 1;
            if (longer > LONGEST_LOG || used < 1 || used >= ROOM) {
                return NONE;
            }
            number[used] = x;
            before[used] = log;
            length[used] = longer;
            used++;
            return used - 1;
        }
    }

    /** A stack of RESULTS: those of all TERMS that are under way, the innermost's last. */
    private static final class Results {
        // At each HEIGHT stand at most the RESULTS that a part had and those that came of them.
        private static final int ROOM = (MOST_HEIGHT + 1) * 2 * MOST_RESULTS;

        private final int[] number = new int[ROOM];
        private final boolean[] error = new boolean[ROOM];
        private final int[] state = new int[ROOM];
        private final int[] log = new int[ROOM];
        private int top;

        int size() {
            return top;
        }

        private boolean has(int i) {
            return i >= 0 && i < top && i < ROOM;
        }

        int numberOf(int i) {
            return has(i) ? number[i] : 0;
        }

        boolean isError(int i) {
            return has(i) && error[i];
        }

        int stateOf(int i) {
            return has(i) ? state[i] : 0;
        }

        int logOf(int i) {
            return has(i) ? log[i] : Logs.EMPTY;
        }

        void setNumber(int i, int x) {
            if (has(i)) {
                number[i] = x;
            }
        }

        void setState(int i, int x) {
            if (has(i)) {
                state[i] = x;
            }
        }

        void setLog(int i, int x) {
            if (has(i)) {
                log[i] = x;
            }
        }

        /** Whether there was room. */
        boolean push(int itsNumber, boolean isError, int itsState, int itsLog) {
            if (top < 0 || top >= ROOM) {
                return false;
            }
            number[top] = itsNumber;
            error[top] = isError;
            state[top] = itsState;
            log[top] = itsLog;
            top++;
            return true;
        }

        boolean pushAgain(int i) {
            return push(numberOf(i), isError(i), stateOf(i), logOf(i));
        }

        void cutTo(int size) {
            if (size >= 0 && size < top) {
                top = size;
            }
        }

        /** Leaves out those from base up to from: the ones behind move down. */
        void closeGap(int base, int from) {
            int end = Math.min(top, ROOM);
            cutTo(base);
            for (int i = Math.max(0, from); i < end; i++) {
                push(number[i], error[i], state[i], log[i]);
            }
        }
    }

    /** What result() tells of a RESULT, or shared() of a RUN, by the number that they ask with. */
    private static final class Row {
        static final int SPENT = 1;
        private static final int LOG_SIZE = 4;
        private static final int HEAD = 5;

        private final int[] told = new int[HEAD + LONGEST_LOG];

        boolean tells(int what) {
            return what >= 0 && what < told.length && what < HEAD + Math.max(0, told[LOG_SIZE]);
        }

        int at(int what) {
            return tells(what) ? told[what] : 0;
        }

        void setHead(int number, int second) {
            told[0] = number;
            told[1] = second;
        }

        void setState(boolean there, int state) {
            told[2] = there ? 1 : 0;
            told[3] = there ? state : 0;
        }

        void setLog(boolean there, Logs logs, int log) {
            told[LOG_SIZE] = there ? Math.min(logs.lengthOf(log), LONGEST_LOG) : NONE;
            int rest = log;
            for (int i = told[LOG_SIZE] - 1; i >= 0; i--) {
                told[HEAD + i] = logs.lastOf(rest);
                rest = logs.withoutLast(rest);
            }
        }

        /** Whether all is told alike, but for the one number that is left out. */
        boolean isLike(Row other, int leftOut) {
            for (int i = 0; i < told.length && (tells(i) || other.tells(i)); i++) {
                if (i != leftOut && (tells(i) != other.tells(i) || at(i) != other.at(i))) {
                    return false;
                }
            }
            return true;
        }
    }

    /** What is told of a RUN. */
    private static final class Outcome {
        // As of a RUN that was OUT, nothing is told where there was none.
        int answer = OUT;
        final Row common = new Row();
        private final Row[] rows = new Row[MOST_RESULTS];

        Outcome() {
            for (int k = 0; k < MOST_RESULTS; k++) {
                rows[k] = new Row();
            }
        }

        /** The row of a RESULT, null if there is no such RESULT. */
        Row rowOf(int k) {
            return k >= 0 && k < answer && k < MOST_RESULTS ? rows[k] : null;
        }

        boolean isLike(Outcome other) {
            if (answer == OUT || answer != other.answer || !common.isLike(other.common, Row.SPENT)) {
                return false;
            }
            for (int k = 0; k < answer && k < MOST_RESULTS; k++) {
                Row mine = rowOf(k);
                Row its = other.rowOf(k);
                if (mine == null || its == null || !mine.isLike(its, NONE)) {
                    return false;
                }
            }
            return true;
        }
    }

    /**
     * Does TERMS. The STATE and the LOG here are the SHARED ones, or, if OWN, those that the TERM
     * begins with: whoever does a part sets these first, and takes them from its RESULTS after.
     */
    private static final class Machine {
        // How doing a TERM went, besides ENDED and OUT.
        private static final int GOING = 0;

        private final Results results = new Results();
        private final Logs logs = new Logs();
        private final int[] names = new int[NAMES];
        private Layering layering = new Layering(NONE, NONE, NONE, NONE);
        private int state;
        private int log;
        private int limit;
        private int spent;
        private int errorNumber;

        void carryOut(Term term, Layering itsLayering, int itsState, int steps, Outcome outcome) {
            layering = itsLayering;
            state = itsState;
            limit = steps;
            clear();
            int how = perform(term);
            outcome.answer = how == GOING ? results.size() : how;
            if (how != OUT) {
                tell(outcome);
            }
        }

        private void clear() {
            spent = 0;
            errorNumber = 0;
            log = Logs.EMPTY;
            logs.clear();
            results.cutTo(0);
            for (int i = 0; i < NAMES; i++) {
                names[i] = 0;
            }
        }

        private void tell(Outcome outcome) {
            tellCommon(outcome.common, outcome.answer == ENDED);
            for (int k = 0; k < outcome.answer && k < MOST_RESULTS; k++) {
                Row row = outcome.rowOf(k);
                if (row != null) {
                    tellResult(row, k);
                }
            }
        }

        private void tellCommon(Row row, boolean ended) {
            row.setHead(ended ? errorNumber : 0, spent);
            row.setState(layering.sharedState && !(ended && layering.errorLosesState), state);
            row.setLog(layering.sharedLog && !(ended && layering.errorLosesLog), logs, log);
        }

        private void tellResult(Row row, int k) {
            boolean error = results.isError(k);
            row.setHead(results.numberOf(k), error ? 1 : 0);
            row.setState(layering.ownState && !(error && layering.errorLosesState), results.stateOf(k));
            row.setLog(layering.ownLog && !(error && layering.errorLosesLog), logs, results.logOf(k));
        }

        // Goes no deeper than a TERM is high, and keep() refuses those above 30.
        private int perform(Term term) {
            if (term == null || spent >= limit) {
                return OUT;
            }
            spent++;
            switch (term.kind) {
                case Kind.GIVE:
                    return answer(operandOf(term));
                case Kind.READ:
                    return answer(state);
                case Kind.WRITE:
                    return performWrite(operandOf(term));
                case Kind.SAY:
                    return performSay(operandOf(term));
                case Kind.FAIL:
                    return performFail(operandOf(term));
                case Kind.NOTHING:
                    return GOING;
                case Kind.EITHER:
                    return performEither(term);
                case Kind.THEN:
                    return performThen(term);
                case Kind.SAVED:
                    return performSaved(term);
                case Kind.WHEN:
                    return perform(numberOf(term.name) != 0 ? term.first : term.second);
                case Kind.TIMES:
                    return performTimes(term);
                case Kind.ONCE:
                    return performOnce(term);
                case Kind.HEARD:
                    return performHeard(term);
                case Kind.HIDDEN:
                    return performHidden(term);
                default:
                    return answer(reckon(term.kind, operandOf(term), numberOf(term.name)));
            }
        }

        private int numberOf(int name) {
            return name >= 0 && name < NAMES ? names[name] : 0;
        }

        private int operandOf(Term term) {
            return term.named ? numberOf(term.operand) : term.operand;
        }

        private static int reckon(int kind, int p, int q) {
            switch (kind) {
                case Kind.PLUS:
                    return p + q;
                case Kind.MINUS:
                    return p - q;
                case Kind.PRODUCT:
                    return p * q;
                case Kind.LESS:
                    return p < q ? 1 : 0;
                default:
                    return p == q ? 1 : 0;
            }
        }

        private int answer(int number) {
            return results.push(number, false, state, log) ? GOING : OUT;
        }

        private int performWrite(int x) {
            int old = state;
            state = x;
            return answer(old);
        }

        private int performSay(int x) {
            int longer = logs.with(log, x);
            if (longer == NONE) {
                return OUT;
            }
            log = longer;
            return answer(x);
        }

        private int performFail(int x) {
            if (layering.ownError) {
                return results.push(x, true, state, log) ? GOING : OUT;
            }
            errorNumber = x;
            return ENDED;
        }

        private int performEither(Term term) {
            int base = results.size();
            int stateThen = state;
            int logThen = log;
            int how = perform(term.first);
            if (how != GOING) {
                return how;
            }
            takeOwn(stateThen, logThen);
            how = perform(term.second);
            return how == GOING && isTooMany(base) ? OUT : how;
        }

        private int performThen(Term term) {
            int base = results.size();
            int how = perform(term.first);
            return how == GOING ? performEach(base, false, term.name, term.second) : how;
        }

        private int performSaved(Term term) {
            int base = results.size();
            int stateThen = state;
            int logThen = log;
            int how = perform(term.first);
            if (how == ENDED) {
                results.cutTo(base);
                state = layering.errorLosesState ? stateThen : state;
                log = layering.errorLosesLog ? logThen : log;
                return performNaming(term.name, errorNumber, term.second);
            }
            if (how != GOING) {
                return how;
            }
            // Where the ERROR has lost them, its part begins with those of the beginning.
            int end = results.size();
            for (int i = base; i < end; i++) {
                if (results.isError(i)) {
                    results.setState(i, layering.errorLosesState ? stateThen : results.stateOf(i));
                    results.setLog(i, layering.errorLosesLog ? logThen : results.logOf(i));
                }
            }
            return performEach(base, true, term.name, term.second);
        }

        private int performTimes(Term term) {
            int base = results.size();
            int rounds = Math.max(0, Math.min(MOST_TIMES, operandOf(term)));
            int how = answer(0);
            for (int i = 0; i < rounds && how == GOING; i++) {
                how = performEach(base, false, NO_NAME, term.first);
            }
            return how;
        }

        private int performOnce(Term term) {
            int base = results.size();
            int how = perform(term.first);
            if (how == GOING) {
                results.cutTo(base + 1);
            }
            return how;
        }

        private int performHeard(Term term) {
            int base = results.size();
            int lengthThen = logs.lengthOf(log);
            int how = perform(term.first);
            if (how != GOING) {
                return how;
            }
            int end = results.size();
            for (int i = base; i < end; i++) {
                if (!results.isError(i)) {
                    int itsLog = layering.ownLog ? results.logOf(i) : log;
                    results.setNumber(i, logs.lengthOf(itsLog) - lengthThen);
                }
            }
            return GOING;
        }

        private int performHidden(Term term) {
            int base = results.size();
            int logThen = log;
            int how = perform(term.first);
            if (how != GOING) {
                return how;
            }
            log = logThen;
            int end = results.size();
            for (int i = base; i < end; i++) {
                results.setLog(i, logThen);
            }
            return GOING;
        }

        /** Puts, for each RESULT from base on that is an ERROR, or is none, those of the part in its place. */
        private int performEach(int base, boolean ofErrors, int name, Term part) {
            int end = results.size();
            for (int i = base; i < end; i++) {
                int how;
                if (results.isError(i) == ofErrors) {
                    takeOwn(results.stateOf(i), results.logOf(i));
                    how = performNaming(name, results.numberOf(i), part);
                } else {
                    how = results.pushAgain(i) ? GOING : OUT;
                }
                if (how != GOING) {
                    return how;
                }
                // Looked at each time: a SHARED ERROR in a later part does not come ahead of it.
                if (isTooMany(end)) {
                    return OUT;
                }
            }
            results.closeGap(base, end);
            return GOING;
        }

        private int performNaming(int name, int number, Term part) {
            if (name < 0 || name >= NAMES) {
                return perform(part);
            }
            int old = names[name];
            names[name] = number;
            int how = perform(part);
            names[name] = old;
            return how;
        }

        private void takeOwn(int itsState, int itsLog) {
            if (layering.ownState) {
                state = itsState;
            }
            if (layering.ownLog) {
                log = itsLog;
            }
        }

        private boolean isTooMany(int base) {
            return results.size() - base > MOST_RESULTS;
        }
    }
}
