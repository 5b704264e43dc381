/** Objects and terms that several tests make. */
final class Make {
    private Make() {
    }

    static LayeredActs under(int a, int b, int c, int d) {
        LayeredActs x = new LayeredActs();
        x.order(a, b, c, d);
        return x;
    }

    /** A, then B, the number of A under a name that no test uses. */
    static int seq(LayeredActs x, int a, int b) {
        return x.then(a, 7, b);
    }

    /** As many results, all of them 1, as n says, at most 50; needs choice. */
    static int results(LayeredActs x, int n) {
        int one = x.give(false, 1);
        int all = n % 2 == 1 ? one : x.none();
        int power = one;
        for (int bit = 2; bit <= n; bit *= 2) {
            power = x.either(power, power);
            all = (n & bit) != 0 ? x.either(all, power) : all;
        }
        return all;
    }

    /** Does the term, which is to say a number, sixty times. */
    static int sixty(LayeredActs x, int say) {
        return seq(x, x.times(false, 7, x.times(false, 8, say)), x.times(false, 4, say));
    }

    /** The state is one more then; needs the state, uses the names 4 to 6. */
    static int nextState(LayeredActs x) {
        return x.then(x.read(), 4, x.then(x.give(false, 1), 5, x.then(x.of(4, 5, 0), 6, x.write(true, 6))));
    }
}
