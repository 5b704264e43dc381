import java.util.ArrayList;
import java.util.List;

/**
 * The document once more, in the plainest way and built otherwise than the class: lists that are
 * never changed, own states and logs handed along, a shared error and OUT as exceptions.
 */
final class Model {
    /** A term, as its maker's name with the arguments of the call; parts are the terms themselves. */
    static final class Term {
        final String kind;
        final boolean named;
        final int x;
        final int p;
        final int q;
        final Term first;
        final Term second;

        Term(String kind, boolean named, int x, int p, int q, Term first, Term second) {
            this.kind = kind;
            this.named = named;
            this.x = x;
            this.p = p;
            this.q = q;
            this.first = first;
            this.second = second;
        }
    }

    private record Result(int number, boolean error, int state, List<Integer> log) {
    }

    /** What a term begins with; of no meaning where shared. */
    private record Own(int state, List<Integer> log) {
    }

    private static final class SharedError extends RuntimeException {
        private static final long serialVersionUID = 1;
        final int number;

        SharedError(int number) {
            super(null, null, false, false);
            this.number = number;
        }
    }

    private static final class Out extends RuntimeException {
        private static final long serialVersionUID = 1;

        Out() {
            super(null, null, false, false);
        }
    }

    private static final int STATE = 0, LOG = 1, ERROR = 2, CHOICE = 3;

    private final List<Integer> order;
    private final int steps;
    private int spent;
    private int sharedState;
    private List<Integer> sharedLog = List.of();

    private Model(List<Integer> order, int state, int steps) {
        this.order = order;
        this.steps = steps;
        this.sharedState = state;
    }

    /** What Told.run() is to write, with the steps behind it. */
    static String told(Term term, List<Integer> order, int state, int steps) {
        Model model = new Model(order, state, steps);
        try {
            List<Result> results = model.done(term, new int[8], new Own(state, List.of()));
            return model.tellResults(results) + " steps " + model.spent;
        } catch (SharedError e) {
            return "ENDED " + e.number + " |" + model.tellShared(true) + " steps " + model.spent;
        } catch (Out e) {
            return "OUT";
        }
    }

    private boolean outside(int layer, int other) {
        return order.contains(layer) && order.contains(other) && order.indexOf(layer) < order.indexOf(other);
    }

    private boolean own(int layer) {
        return !order.contains(CHOICE) || outside(layer, CHOICE);
    }

    private String tellResults(List<Result> results) {
        StringBuilder text = new StringBuilder();
        for (Result r : results) {
            text.append(r.error ? "!" : "").append(r.number);
            if (order.contains(STATE) && own(STATE) && !(r.error && outside(STATE, ERROR))) {
                text.append("@").append(r.state);
            }
            if (order.contains(LOG) && own(LOG) && !(r.error && outside(LOG, ERROR))) {
                text.append(r.log.toString().replace(" ", ""));
            }
            text.append(" ");
        }
        return text + "|" + tellShared(false);
    }

    private String tellShared(boolean ended) {
        String text = "";
        if (order.contains(STATE) && !own(STATE) && !(ended && outside(STATE, ERROR))) {
            text += "@" + sharedState;
        }
        if (order.contains(LOG) && !own(LOG) && !(ended && outside(LOG, ERROR))) {
            text += sharedLog.toString().replace(" ", "");
        }
        return text;
    }

    private int state(Own own) {
        return own(STATE) ? own.state : sharedState;
    }

    private List<Integer> log(Own own) {
        return own(LOG) ? own.log : sharedLog;
    }

    private static int[] with(int[] names, int name, int number) {
        int[] more = names.clone();
        more[name] = number;
        return more;
    }

    private static List<Result> counted(List<Result> results) {
        if (results.size() > 50) {
            throw new Out();
        }
        return results;
    }

    private List<Result> one(int number, int state, List<Integer> log) {
        sharedState = own(STATE) ? sharedState : state;
        sharedLog = own(LOG) ? sharedLog : log;
        return List.of(new Result(number, false, state, log));
    }

    private List<Result> done(Term t, int[] names, Own own) {
        if (spent + 1 > steps) {
            throw new Out();
        }
        spent++;
        int x = t.named ? names[t.x] : t.x;
        int state = state(own);
        List<Integer> log = log(own);
        return switch (t.kind) {
            case "give" -> one(x, state, log);
            case "of" -> one(of(names[t.p], names[t.q], t.x), state, log);
            case "read" -> one(state, state, log);
            case "write" -> one(state, x, log);
            case "say" -> one(x, state, longer(log, x));
            case "fail" -> failed(x, state, log);
            case "none" -> List.of();
            case "either" -> either(t, names, own);
            case "then" -> forEach(done(t.first, names, own), t, names);
            case "saved" -> saved(t, names, own, state, log);
            case "when" -> done(names[t.p] != 0 ? t.first : t.second, names, own);
            case "times" -> times(t, x, names, own);
            case "once" -> done(t.first, names, own).stream().limit(1).toList();
            case "heard" -> heard(done(t.first, names, own), log.size());
            case "hidden" -> hidden(done(t.first, names, own), log);
            default -> throw new AssertionError(t.kind);
        };
    }

    private static int of(int p, int q, int op) {
        return switch (op) {
            case 0 -> (int) ((long) p + q);
            case 1 -> (int) ((long) p - q);
            case 2 -> (int) ((long) p * q);
            case 3 -> p < q ? 1 : 0;
            default -> p == q ? 1 : 0;
        };
    }

    private static List<Integer> longer(List<Integer> log, int x) {
        if (log.size() == 60) {
            throw new Out();
        }
        List<Integer> more = new ArrayList<>(log);
        more.add(x);
        return more;
    }

    private List<Result> failed(int x, int state, List<Integer> log) {
        if (own(ERROR)) {
            return List.of(new Result(x, true, state, log));
        }
        throw new SharedError(x);
    }

    private List<Result> either(Term t, int[] names, Own own) {
        List<Result> all = new ArrayList<>(done(t.first, names, own));
        all.addAll(done(t.second, names, own));
        return counted(all);
    }

    private List<Result> forEach(List<Result> results, Term t, int[] names) {
        List<Result> all = new ArrayList<>();
        for (Result r : results) {
            all.addAll(r.error ? List.of(r)
                    : done(t.second, with(names, t.p, r.number), new Own(r.state, r.log)));
            counted(all);
        }
        return all;
    }

    private List<Result> times(Term t, int x, int[] names, Own own) {
        if (x <= 0) {
            return one(0, state(own), log(own));
        }
        List<Result> round = done(t.first, names, own);
        for (int i = 2; i <= x && i <= 8; i++) {
            List<Result> next = new ArrayList<>();
            for (Result r : round) {
                next.addAll(r.error ? List.of(r) : done(t.first, names, new Own(r.state, r.log)));
                counted(next);
            }
            round = next;
        }
        return round;
    }

    private List<Result> saved(Term t, int[] names, Own own, int state, List<Integer> log) {
        List<Result> results;
        try {
            results = done(t.first, names, own);
        } catch (SharedError e) {
            sharedState = outside(STATE, ERROR) ? state : sharedState;
            sharedLog = outside(LOG, ERROR) ? log : sharedLog;
            return done(t.second, with(names, t.p, e.number), own);
        }
        List<Result> all = new ArrayList<>();
        for (Result r : results) {
            Own from = new Own(outside(STATE, ERROR) ? state : r.state, outside(LOG, ERROR) ? log : r.log);
            all.addAll(r.error ? done(t.second, with(names, t.p, r.number), from) : List.of(r));
            counted(all);
        }
        return all;
    }

    private List<Result> heard(List<Result> results, int size) {
        return results.stream().map(r -> r.error ? r
                : new Result((own(LOG) ? r.log : sharedLog).size() - size, false, r.state, r.log)).toList();
    }

    private List<Result> hidden(List<Result> results, List<Integer> log) {
        sharedLog = own(LOG) ? sharedLog : log;
        return results.stream().map(r -> new Result(r.number, r.error, r.state, log)).toList();
    }
}
