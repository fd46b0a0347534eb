import java.lang.management.ManagementFactory;

/** The room that one run takes: all of its calls have some 7.3 million fields and elements together. */
public final class RoomTest {
    // 4 bytes an element at least; what a new harbour and the dearest run may take is far below the room.
    private static final long NEW_BYTES = 100_000;
    private static final long RUN_BYTES = 400_000;
    private static final int CALLS = 512;

    private final Check check = new Check("RoomTest");

    public static void main(String[] args) {
        RoomTest test = new RoomTest();
        LinkHarbour first = test.fullHarbour();
        test.dearest(first);
        test.newOnes();
        test.dearCalls(test.fullHarbour());
        test.check.end();
    }

    private static long allocated() {
        com.sun.management.ThreadMXBean threads =
                (com.sun.management.ThreadMXBean) ManagementFactory.getThreadMXBean();
        return threads.getCurrentThreadAllocatedBytes();
    }

    /** All that there can be, as large as it can be, with JUMPS that grow one behind the other. */
    private LinkHarbour fullHarbour() {
        LinkHarbour x = new LinkHarbour();
        for (int k = 0; k < 10; k++) {
            x.object();
        }
        for (int s = 0; s < 24; s++) {
            x.section(s % 10, 16, true);
            if (s < 20) {
                x.define(s, s, false, false);
            }
            for (int k = 0; k < 4; k++) {
                x.jump(s, (s + k) % 20, false);
                x.fill(s, 40);
            }
        }
        for (int k = 0; k < 10; k++) {
            x.common(k, (k + 5) % 20, 40, 16);
        }
        x.item(1, 0);
        x.item(1022, 1);
        return x;
    }

    private void newOnes() {
        long before = allocated();
        for (int k = 0; k < 100; k++) {
            new LinkHarbour().many(0);
        }
        long each = (allocated() - before) / 100;
        System.out.println("RoomTest: a new harbour takes " + each + " bytes");
        check.due("a new harbour is small", 1, each < NEW_BYTES ? 1 : 0);
    }

    private void dearest(LinkHarbour x) {
        x.bounds(1, 9999);
        x.link(0, true);
        check.due("all are TAKEN", 10, x.many(7));
        check.due("all are REACHED", 24, x.many(8));
        check.due("many are LONG", 1, x.many(11) > 50 ? 1 : 0);
    }

    private void dearCalls(LinkHarbour x) {
        long before = allocated();
        long sum = 0;
        for (int k = 0; k < CALLS / 2; k++) {
            x.link(k % 20, k % 2 == 0);
            sum += x.digest();
        }
        long taken = allocated() - before;
        System.out.println("RoomTest: links and digests take " + taken + " bytes (" + sum % 2 + ")");
        check.due("links and digests use their rows again", 1, taken < RUN_BYTES ? 1 : 0);
    }
}
