/** Objects and terms that several tests make. */
final class Make {
    private Make() {
    }

    static LayeredActs under(int a, int b, int c, int d) {
        LayeredActs x = new LayeredActs();
        x.order(a, b, c, d);
        return x;
    }

    /** A, then B, the number of A under a name that no test uses. */
    static int seq(LayeredActs x, int a, int b) {
        return x.then(a, 7, b);
    }
}
