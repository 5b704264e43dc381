import java.lang.management.ManagementFactory;

/** All calls of one run live in one room: the dearest ones, 512 of them, are to make next to nothing. */
public final class RoomTest {
    private static final int CALLS = 512;
    // Some 600,000 objects and 7.3 million elements: a head counts 16 bytes here, an int four.
    private static final long ROOM = 16L * 600_000 + 4L * 7_300_000;
    private static final Check CHECK = new Check("RoomTest");

    private RoomTest() {
    }

    private static long allocated() {
        var bean = (com.sun.management.ThreadMXBean) ManagementFactory.getThreadMXBean();
        return bean.getCurrentThreadAllocatedBytes();
    }

    public static void main(String[] args) {
        // The first use of the class loads it, which is not to be counted.
        dearestCalls(new LayeredActs());
        long before = allocated();
        LayeredActs x = new LayeredActs();
        long made = allocated();
        dearestCalls(x);
        long used = allocated();
        CHECK.holds("an object and its calls have room: " + (used - before), used - before < ROOM);
        System.out.println("RoomTest: an object " + (made - before) + " bytes, its calls " + (used - made));
        CHECK.end();
    }

    /** Fifty results with a log of some fifty each, under many steps, compared again and again. */
    private static void dearestCalls(LayeredActs x) {
        int say = x.say(false, 1);
        int many = x.times(false, 6, x.times(false, 8, say));
        int two = x.either(x.read(), x.write(false, 2));
        int all = x.then(many, 0, x.then(x.times(false, 5, two), 1, x.times(false, 8, say)));
        int same = x.then(all, 0, x.give(true, 0));
        // To ask for the number of terms is a call, too.
        int calls = x.terms() + 1;
        x.order(2, 1, 0, 3);
        calls++;
        CHECK.equal("many results", 32, x.run(all, 0, 2000));
        calls++;
        while (calls <= CALLS - 2) {
            CHECK.holds("alike", x.alike(all, same, 0, 2000));
            x.order(2, 0, 1, 3);
            calls += 2;
        }
    }
}
