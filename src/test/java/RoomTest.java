import java.lang.management.ManagementFactory;

/**
 * What a run of calls makes is never taken back in the room that it has to live in. Measured are
 * the dearest calls, 512 of each on one object, against a small part of the room.
 */
public final class RoomTest {
    private static final int CALLS = 512;
    private static final long BYTES_FOR_ONE_OBJECT = 20_000;
    private static final long BYTES_FOR_ONE_RUN = 3_000_000;

    public static void main(String[] args) {
        measure(false);
        measure(true);
        Check.end("RoomTest");
    }

    /** The first time over, the machine's own loading of classes would be counted too. */
    private static void measure(boolean counts) {
        long start = allocated();
        PlanCabinet c = great();
        check(counts, "one object", BYTES_FOR_ONE_OBJECT, allocated() - start);

        start = allocated();
        for (int i = 0; i < CALLS / 2; i++) {
            c.order(1, 0);
            c.spans();
        }
        Check.due("spans", 8, c.spans());
        check(counts, "spans told anew", BYTES_FOR_ONE_RUN, allocated() - start);

        start = allocated();
        for (int i = 0; i < CALLS; i++) {
            if (c.best(i % 33) < 0) {
                c.clear();
            }
        }
        check(counts, "best", BYTES_FOR_ONE_RUN, allocated() - start);

        start = allocated();
        for (int i = 0; i < CALLS / 4; i++) {
            c.run(0);
            c.cover(i);
            c.blind();
            c.worst(0);
        }
        check(counts, "run, cover, blind, worst", BYTES_FOR_ONE_RUN, allocated() - start);
    }

    private static void check(boolean counts, String what, long most, long bytes) {
        if (counts) {
            System.out.println(what + ": " + bytes + " bytes");
            Check.holds(what + " in " + most + " bytes, not " + bytes, bytes <= most);
        }
    }

    /** With the order of 1, 0 it has eight spans; a search of all questions found no more. */
    private static PlanCabinet great() {
        PlanCabinet c = new PlanCabinet();
        int[] rows = {8, 8, 7, 8};
        for (int t = 0; t < 4; t++) {
            c.table();
            for (int row = 0; row < rows[t]; row++) {
                c.row(t, 1, 1, 1);
            }
        }
        c.pair(0, 1, 1, 0, 0);
        c.pair(1, 0, 2, 1, 2);
        c.pair(1, 0, 3, 1, 2);
        c.pair(2, 1, 3, 1, 1);
        return c;
    }

    private static long allocated() {
        return ((com.sun.management.ThreadMXBean) ManagementFactory.getThreadMXBean())
            .getThreadAllocatedBytes(Thread.currentThread().getId());
    }
}
