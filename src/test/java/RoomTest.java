import com.sun.management.ThreadMXBean;
import java.lang.management.ManagementFactory;

/** All calls of one run live in one small room: what an object and its 512 calls take is counted. */
public final class RoomTest {
    private static final int CALLS = 512;
    // An object takes some 81,000 ints; this is far below 7.3 million fields and elements.
    private static final long MOST_BYTES = 500_000;

    private interface Run {
        void of(SwapOrbits s, int call);
    }

    private static long bytesOf(Run run) {
        ThreadMXBean threads = (ThreadMXBean) ManagementFactory.getThreadMXBean();
        long id = Thread.currentThread().getId();
        long before = threads.getThreadAllocatedBytes(id);
        SwapOrbits s = new SwapOrbits();
        s.set(7, 4);
        s.move(Boundary.row(Boundary.RING_OF_SEVEN));
        s.move(Boundary.row(Boundary.SWAP_OF_SEVEN));
        for (int call = 4; call <= CALLS; call++) {
            run.of(s, call);
        }
        return threads.getThreadAllocatedBytes(id) - before;
    }

    private static void changes(SwapOrbits s, int call) {
        switch (call % 8) {
            case 0:
                s.set(7, 1 + call / 8 % 4);
                break;
            case 1:
                s.move(Boundary.row(Boundary.RING_OF_SEVEN));
                break;
            case 2:
                s.edge(call % 7, call / 7 % 7);
                break;
            case 3:
                s.fits();
                break;
            case 4:
                s.move(Boundary.row(Boundary.SWAP_OF_SEVEN));
                break;
            case 5:
                s.weight(call % 4, call % 10);
                break;
            case 6:
                s.full();
                break;
            default:
                s.back();
                break;
        }
    }

    private static void questions(SwapOrbits s, int call) {
        switch (call % 8) {
            case 0:
                s.told(5);
                break;
            case 1:
                s.keepsFit(call);
                break;
            case 2:
                s.by(call, 4 * call);
                break;
            case 3:
                s.orbitsOf(call % 3, call % 4, 1);
                break;
            case 4:
                s.sum();
                break;
            case 5:
                s.mates(call);
                break;
            case 6:
                s.order(call);
                break;
            default:
                s.nth(call);
                break;
        }
    }

    public static void main(String[] args) {
        Run[] runs = {RoomTest::changes, RoomTest::questions};
        boolean small = true;
        for (int which = 0; which < runs.length; which++) {
            bytesOf((s, call) -> { });
            long bytes = bytesOf(runs[which]);
            if (bytes > MOST_BYTES) {
                small = false;
                System.out.println("run " + which + " takes " + bytes + " bytes, due are at most " + MOST_BYTES);
            }
        }
        System.out.println(small ? "the room is small enough" : "the room is too large");
        if (!small) {
            System.exit(1);
        }
    }
}
