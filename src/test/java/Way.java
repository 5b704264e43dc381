import java.util.List;

/** A way to make a term. ALL are those of the face, for tests of what holds for each of them. */
record Way(String name, int parts, int needs, Maker maker) {
    private static final int STATE = 1, LOG = 2, ERROR = 4, CHOICE = 8;

    static final List<Way> ALL = List.of(
            new Way("give", 0, 0, (x, t, u) -> x.give(false, 1)),
            new Way("give of a name", 0, 0, (x, t, u) -> x.give(true, 7)),
            new Way("of, +", 0, 0, (x, t, u) -> x.of(0, 7, 0)),
            new Way("of, -", 0, 0, (x, t, u) -> x.of(7, 0, 1)),
            new Way("of, *", 0, 0, (x, t, u) -> x.of(0, 0, 2)),
            new Way("of, less", 0, 0, (x, t, u) -> x.of(7, 7, 3)),
            new Way("of, same", 0, 0, (x, t, u) -> x.of(1, 2, 4)),
            new Way("read", 0, STATE, (x, t, u) -> x.read()),
            new Way("write", 0, STATE, (x, t, u) -> x.write(false, 2)),
            new Way("write of a name", 0, STATE, (x, t, u) -> x.write(true, 0)),
            new Way("say", 0, LOG, (x, t, u) -> x.say(false, 3)),
            new Way("say of a name", 0, LOG, (x, t, u) -> x.say(true, 7)),
            new Way("fail", 0, ERROR, (x, t, u) -> x.fail(false, 4)),
            new Way("fail of a name", 0, ERROR, (x, t, u) -> x.fail(true, 0)),
            new Way("none", 0, CHOICE, (x, t, u) -> x.none()),
            new Way("either", 2, CHOICE, (x, t, u) -> x.either(t, u)),
            new Way("then", 2, 0, (x, t, u) -> x.then(t, 0, u)),
            new Way("saved", 2, ERROR, (x, t, u) -> x.saved(t, 7, u)),
            new Way("when", 2, 0, (x, t, u) -> x.when(3, t, u)),
            new Way("times", 1, 0, (x, t, u) -> x.times(false, 1, t)),
            new Way("times of a name", 1, 0, (x, t, u) -> x.times(true, 7, t)),
            new Way("once", 1, CHOICE, (x, t, u) -> x.as(0, t)),
            new Way("heard", 1, LOG, (x, t, u) -> x.as(1, t)),
            new Way("hidden", 1, LOG, (x, t, u) -> x.as(2, t)));

    static final List<Way> OF_NONE = ALL.stream().filter(way -> way.parts == 0).toList();
    static final List<Way> OF_PARTS = ALL.stream().filter(way -> way.parts > 0).toList();

    /** Makes a term; of the parts, it takes the first ones that it needs. */
    interface Maker {
        int make(LayeredActs x, int t, int u);
    }

    int make(LayeredActs x, int t, int u) {
        return maker.make(x, t, u);
    }

    /** With the one part at this place, 0 or 1, and the other one elsewhere. */
    int makeAt(LayeredActs x, int place, int part, int other) {
        return place == 0 ? make(x, part, other) : make(x, other, part);
    }
}
