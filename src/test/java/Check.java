import java.util.HashSet;
import java.util.Set;

/** Counts the answers that are not as due and prints each of them, with the sentence that is broken. */
final class Check {
    private final String about;
    private final Set<String> sentences = new HashSet<>();
    private String sentence = "";
    private int looked;
    private int wrong;

    Check(String about) {
        this.about = about;
    }

    /** A call that may throw. */
    interface Call {
        long answer();
    }

    /** The words of the document that the answers from here on are about. */
    void sentence(String words) {
        sentence = words;
        sentences.add(words);
    }

    void equal(String call, long want, long got) {
        looked++;
        if (want != got) {
            report(call, Long.toString(want), Long.toString(got));
        }
    }

    void equal(String call, String want, String got) {
        looked++;
        if (!want.equals(got)) {
            report(call, want, got);
        }
    }

    /** That a run of the term from the state 5, with steps enough, is told so. */
    void told(String what, String want, LayeredActs x, int term) {
        equal(what, want, Told.run(x, term));
    }

    void holds(String what, boolean got) {
        equal(what, 1, got ? 1 : 0);
    }

    void fails(String call, Class<? extends RuntimeException> want, Call made) {
        looked++;
        try {
            report(call, want.getSimpleName(), Long.toString(made.answer()));
        } catch (RuntimeException e) {
            if (e.getClass() != want) {
                report(call, want.getSimpleName(), e.getClass().getSimpleName());
            }
        }
    }

    void failsOutside(String call, Call made) {
        fails(call, IndexOutOfBoundsException.class, made);
    }

    void failsArgument(String call, Call made) {
        fails(call, IllegalArgumentException.class, made);
    }

    void failsState(String call, Call made) {
        fails(call, IllegalStateException.class, made);
    }

    void failsFull(String call, Call made) {
        fails(call, UnsupportedOperationException.class, made);
    }

    private void report(String call, String want, String got) {
        wrong++;
        if (wrong <= 40) {
            System.out.println(about + ": " + call + " answered " + got + ", due is " + want
                    + (sentence.isEmpty() ? "" : ", as: " + sentence));
        }
    }

    void end() {
        System.out.println(about + ": " + (sentences.isEmpty() ? "" : sentences.size() + " sentences, ")
                + looked + " answers, " + wrong + " not as due");
        if (wrong != 0) {
            System.exit(1);
        }
    }
}
