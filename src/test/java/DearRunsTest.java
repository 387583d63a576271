import java.lang.management.ManagementFactory;

/** Runs of 512 calls on one object that make the dearest calls again and again. */
public final class DearRunsTest {
    private static final int CALLS = 512;
    /** Well below the room's 7.3 million fields and elements, even if each were a byte. */
    private static final long MOST_BYTES = 5_000_000;
    private static final String[] RUNS = {"searches", "rows", "plans", "joins", "all", "tries", "towers", "counts",
        "moves", "renames", "growing", "objects"};
    private static final com.sun.management.ThreadMXBean THREADS =
            (com.sun.management.ThreadMXBean) ManagementFactory.getThreadMXBean();

    private DearRunsTest() {
    }

    public static void main(String[] args) {
        for (int pass = 0; pass < 2; pass++) {
            for (String run : RUNS) {
                Check.part(run);
                measure(run, pass);
            }
        }
        Check.end();
    }

    /** The first pass is not measured, as the machine itself makes things then. */
    private static void measure(String run, int pass) {
        long bytes = THREADS.getThreadAllocatedBytes(Thread.currentThread().getId());
        long begun = System.nanoTime();
        int calls = play(run);
        long millis = (System.nanoTime() - begun) / 1_000_000;
        bytes = THREADS.getThreadAllocatedBytes(Thread.currentThread().getId()) - bytes;
        Check.due("calls", calls, CALLS);
        if (pass > 0) {
            System.out.println(run + ": " + bytes + " bytes, " + millis + " ms");
            Check.due("bytes below " + MOST_BYTES, bytes < MOST_BYTES, true);
        }
    }

    private static int play(String run) {
        return switch (run) {
            case "searches" -> searches();
            case "rows" -> rows();
            case "plans" -> plans();
            case "joins" -> joins();
            case "all" -> all();
            case "tries" -> tries();
            case "towers" -> towers();
            case "counts" -> counts();
            case "moves" -> moves();
            case "renames" -> renames();
            case "growing" -> growing();
            default -> objects();
        };
    }

    private static DiscYard open(int pegs, int discs) {
        DiscYard x = new DiscYard();
        Check.due("yard", x.yard(pegs, discs), true);
        Check.due("lanes", x.lanes(), pegs * (pegs - 1));
        return x;
    }

    /** Each step of the least disc makes all that was found out stale; it is home again at each fifth. */
    private static int searches() {
        DiscYard x = open(5, 6);
        Check.due("goal", x.stand(15624, true), true);
        int calls = 3;
        for (int k = 0; calls < CALLS - 1; k++) {
            Check.due("move", x.move(k % 5, (k + 1) % 5), 1);
            boolean home = k % 5 == 4;
            switch (k % 4) {
                case 0 -> Check.due("fewest", home ? x.fewest() == 15 : x.fewest() >= 14, true);
                case 1 -> Check.due("reach", x.reach(), 15625);
                case 2 -> Check.due("far", x.far() >= 14, true);
                default -> Check.due("farthest", x.farthest() >= 0, true);
            }
            calls += 2;
        }
        Check.due("reach", x.reach(), 15625);
        return calls + 1;
    }

    /** 16,384 STANDS at COSTS that make rows long, from a new STAND each time. */
    private static int rows() {
        DiscYard x = new DiscYard();
        x.yard(4, 7);
        for (int a = 0; a < 3; a++) {
            x.lane(a, a + 1, 100, true);
            x.lane(a + 1, a, 99, true);
        }
        int calls = 7;
        for (int k = 0; calls < CALLS - 1; k++) {
            Check.due("stand", x.stand(31 * k, false), true);
            Check.due("ways", x.ways() != -1, true);
            calls += 2;
        }
        Check.due("reach", x.reach(), 16384);
        return calls + 1;
    }

    private static int plans() {
        DiscYard x = open(4, 7);
        Check.due("goal", x.stand(16383, true), true);
        int calls = 3;
        for (int k = 0; calls < CALLS - 1; k++) {
            Check.due("stand", x.stand(k % 3 * 5461, false), true);
            Check.due("plan", x.plan(), 25);
            calls += 2;
        }
        Check.due("planned", x.planned(25), -1);
        return calls + 1;
    }

    /** A weak or a STRONG LANE, at a new COST each time. */
    private static int joins() {
        DiscYard x = open(4, 7);
        int calls = 2;
        for (int k = 0; calls < CALLS; k++) {
            Check.due("lane", x.lane(0, 1, k % 100 + 1, k % 2 == 0), true);
            Check.due("joined", x.joined(k % 4), k % 2 == 0 ? 1 : 16384);
            calls += 2;
        }
        return calls;
    }

    /** A search, a plan and the sets, all of them anew in each round. */
    private static int all() {
        DiscYard x = open(5, 6);
        Check.due("goal", x.stand(15624, true), true);
        int calls = 3;
        for (int k = 0; calls + 6 <= CALLS; k++) {
            Check.due("about", x.about(), 20);
            Check.due("fewest", x.fewest(), 15);
            Check.due("plan", x.plan(), 15);
            Check.due("far", x.far(), 15);
            Check.due("farthest", x.farthest(), k % 2 == 0 ? 0 : 3125);
            Check.due("joined", x.joined(k % 4), k % 2 == 0 ? 1 : 15625);
            calls += 6;
        }
        for (; calls < CALLS; calls++) {
            Check.due("planned", x.planned(14) >= 0, true);
        }
        return calls;
    }

    /** The least scheme moves disc 0 to and fro, eight times; each other one calls the next eight times. */
    private static int tries() {
        DiscYard x = open(5, 7);
        for (int s = 0; s < 7; s++) {
            x.scheme();
            for (int k = 0; k < 8; k++) {
                if (s == 0) {
                    x.single(0, k % 2, 1 - k % 2);
                } else {
                    x.call(s, s - 1, 1, 0, 1, 2, 3, 4);
                }
            }
        }
        int calls = 2 + 7 * 9;
        for (int k = 0; calls < CALLS; k++) {
            switch (k % 3) {
                case 0 -> Check.due("tried", x.tried(6, 7, 4, 3, 2, 1, 0), -4);
                case 1 -> Check.due("tried", x.tried(5, 6, 0, 1, 2, 3, 4), -4);
                // 1 + 8 + 64 + 512 CALLS and 4,096 MOVES are 4,681; the disc is back where it was.
                default -> Check.due("tried", x.tried(3, 4, 0, 1, 2, 3, 4), -3);
            }
            calls++;
        }
        return calls;
    }

    private static int towers() {
        DiscYard x = open(3, 7);
        x.scheme();
        x.call(0, 0, 1, 0, 2, 1, 3, 4);
        x.single(0, 0, 1);
        x.call(0, 0, 1, 2, 1, 0, 3, 4);
        int calls = 6;
        for (int k = 0; calls < CALLS; k++) {
            Check.due("tried", x.tried(0, 7, k % 3, (k + 1) % 3, (k + 2) % 3, k, -k), 127);
            calls++;
        }
        return calls;
    }

    /** 8 SCHEMES of 8 STEPS, seven of them CALLS of other ones. */
    private static int counts() {
        DiscYard x = new DiscYard();
        for (int s = 0; s < 8; s++) {
            x.scheme();
        }
        for (int k = 0; k < 64; k++) {
            if (k % 8 == 0) {
                Check.due("single", x.single(k / 8, 0, 1), 1);
            } else {
                Check.due("call", x.call(k / 8, (k + k / 8) % 8, 1, 0, 1, 2, 3, 4), k % 8 + 1);
            }
        }
        int calls = 72;
        for (int k = 0; calls < CALLS; k++) {
            Check.due("count", x.count(k % 8, 60), 1000000000000000000L);
            calls++;
        }
        return calls;
    }

    /** Beyond the 200 that can be undone, each move makes all of them shift. */
    private static int moves() {
        DiscYard x = open(5, 1);
        int calls = 2;
        for (int k = 0; k < 300; k++) {
            Check.due("move", x.move(k % 5, (k + 1) % 5), 1);
            calls++;
        }
        for (int k = 0; k < 200; k++) {
            Check.due("undo", x.undo(), 1);
            calls++;
        }
        for (; calls < CALLS; calls++) {
            Check.due("redo", x.redo(), 1);
        }
        return calls;
    }

    private static int renames() {
        DiscYard x = open(5, 7);
        int calls = 2;
        for (; calls < CALLS; calls++) {
            Check.due("rename", x.rename(1, 2, 3, 4, 0), true);
        }
        return calls;
    }

    /** Rows that are made for a yard must serve the lesser ones, and be made anew for few greater ones. */
    private static int growing() {
        DiscYard x = new DiscYard();
        int calls = 0;
        for (int k = 0; calls < CALLS; k++) {
            int pegs = 2 + k % 4;
            int discs = 1 + k / 4 % 7;
            Check.due("yard", x.yard(pegs, discs), true);
            Check.due("lanes", x.lanes() > 0, true);
            boolean asked = pegs != 5 || discs != 7;
            Check.due("reach", x.reach() > 0, asked);
            Check.due("joined", x.joined(0) > 0, asked);
            calls += 4;
        }
        return calls;
    }

    /** A run may make new objects, too. */
    private static int objects() {
        int calls = 0;
        for (int k = 0; k < 256; k++) {
            DiscYard x = new DiscYard();
            Check.due("reach", x.reach(), 1);
            Check.due("joined", x.joined(0), 3);
            calls += 2;
        }
        return calls;
    }
}
