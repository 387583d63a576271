import java.lang.management.ManagementFactory;

/** Runs of 512 calls on one object that make the dearest calls again and again. */
public final class DearRunsTest {
    /** Well below the room's 7.3 million fields and elements, even if each were a byte. */
    private static final long MOST_BYTES = 5_000_000;
    private static final com.sun.management.ThreadMXBean THREADS =
            (com.sun.management.ThreadMXBean) ManagementFactory.getThreadMXBean();

    private DearRunsTest() {
    }

    public static void main(String[] args) {
        for (int pass = 0; pass < 2; pass++) {
            measured("searches", pass);
            measured("plans", pass);
            measured("joins", pass);
            measured("tries", pass);
            measured("counts", pass);
            measured("renames", pass);
            measured("growing", pass);
            measured("objects", pass);
        }
        Check.end();
    }

    private static void measured(String run, int pass) {
        Check.part(run);
        long bytes = THREADS.getThreadAllocatedBytes(Thread.currentThread().getId());
        long begun = System.nanoTime();
        switch (run) {
            case "searches" -> searches();
            case "plans" -> plans();
            case "joins" -> joins();
            case "tries" -> tries();
            case "counts" -> counts();
            case "renames" -> renames();
            case "growing" -> growing();
            default -> objects();
        }
        long millis = (System.nanoTime() - begun) / 1_000_000;
        bytes = THREADS.getThreadAllocatedBytes(Thread.currentThread().getId()) - bytes;
        if (pass > 0) {
            System.out.println(run + ": " + bytes + " bytes, " + millis + " ms");
            Check.due("bytes below " + MOST_BYTES, bytes < MOST_BYTES, true);
        }
    }

    /** Each step of the disc makes all that was found out stale. */
    private static void searches() {
        DiscYard x = new DiscYard();
        x.yard(5, 6);
        x.lanes();
        x.stand(15624, true);
        for (int k = 0; k < 100; k++) {
            Check.due("move", x.move(k % 5, (k + 1) % 5), 1);
            boolean home = k % 5 == 4;
            Check.due("fewest", x.fewest() >= 14 && (!home || x.fewest() == 15), true);
            Check.due("reach", x.reach(), 15625);
            Check.due("far", x.far() >= (home ? 15 : 14), true);
        }
    }

    private static void plans() {
        DiscYard x = new DiscYard();
        x.yard(4, 7);
        x.lanes();
        for (int k = 0; k < 168; k++) {
            Check.due("stand", x.stand(k % 3 * 5461, false), true);
            Check.due("goal", x.stand(16383, true), true);
            Check.due("plan", x.plan(), 25);
        }
    }

    private static void joins() {
        DiscYard x = new DiscYard();
        x.yard(4, 7);
        x.lanes();
        for (int k = 0; k < 255; k++) {
            Check.due("lane", x.lane(0, 1, k % 100 + 1, k % 2 == 0), true);
            Check.due("joined", x.joined(k % 4), k % 2 == 0 ? 1 : 16384);
        }
    }

    /** The least scheme moves disc 0 to and fro, eight times; each other one calls the next eight times. */
    private static void tries() {
        DiscYard x = new DiscYard();
        x.yard(5, 7);
        x.lanes();
        for (int s = 0; s < 7; s++) {
            x.scheme();
            for (int k = 0; k < 8; k++) {
                if (s == 0) {
                    x.single(0, k % 2, 1 - k % 2);
                } else {
                    x.call(s, s - 1, 1, 0, 1, 2, 3, 4);
                }
            }
        }
        for (int k = 0; k < 100; k++) {
            Check.due("tried", x.tried(6, 7, 4, 3, 2, 1, 0), -4);
            Check.due("tried", x.tried(5, 6, 0, 1, 2, 3, 4), -4);
            // 1 + 8 + 64 + 512 CALLS and 4,096 MOVES are 4,681; the disc is back where it was.
            Check.due("tried", x.tried(3, 4, 0, 1, 2, 3, 4), -3);
            Check.due("tried", x.tried(2, 3, 3, 1, 0, 2, 4), -3);
        }
        x = new DiscYard();
        x.yard(3, 7);
        x.lanes();
        x.scheme();
        x.call(0, 0, 1, 0, 2, 1, 3, 4);
        x.single(0, 0, 1);
        x.call(0, 0, 1, 2, 1, 0, 3, 4);
        for (int k = 0; k < 500; k++) {
            Check.due("tried", x.tried(0, 7, k % 3, (k + 1) % 3, (k + 2) % 3, k, -k), 127);
        }
    }

    private static void counts() {
        DiscYard x = new DiscYard();
        for (int s = 0; s < 8; s++) {
            x.scheme();
        }
        for (int k = 0; k < 64; k++) {
            Check.due("call", x.call(k / 8, (k + 1) / 8 % 8, 1, 0, 1, 2, 3, 4), k % 8 + 1);
        }
        for (int k = 0; k < 430; k++) {
            Check.due("count", x.count(k % 8, 60), 0);
        }
        Check.due("single", x.single(7, 0, 1), -1);
    }

    private static void renames() {
        DiscYard x = new DiscYard();
        x.yard(5, 6);
        x.lanes();
        for (int k = 0; k < 500; k++) {
            Check.due("rename", x.rename(1, 2, 3, 4, 0), true);
        }
        Check.due("number", x.number(false), 0);
    }

    /** Rows that are made for a yard must serve the lesser ones, and be made anew for few greater ones. */
    private static void growing() {
        DiscYard x = new DiscYard();
        int calls = 0;
        for (int round = 0; round < 3; round++) {
            for (int discs = 1; discs <= 7; discs++) {
                for (int pegs = 2; pegs <= 5 && calls < 500; pegs++) {
                    Check.due("yard", x.yard(pegs, discs), true);
                    x.lanes();
                    boolean asked = pegs != 5 || discs != 7;
                    Check.due("reach", x.reach() > 0, asked);
                    Check.due("joined", x.joined(0) > 0, asked);
                    calls += 4;
                }
            }
        }
        Check.due("yard", x.yard(2, 1), true);
        Check.due("reach", x.reach(), 1);
        Check.due("joined", x.joined(0), 2);
    }

    /** A run may make new objects, too. */
    private static void objects() {
        for (int k = 0; k < 256; k++) {
            DiscYard x = new DiscYard();
            Check.due("reach", x.reach(), 1);
        }
    }
}
