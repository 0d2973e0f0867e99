import java.lang.management.ManagementFactory;

/** What an object costs, and that no call makes another one, for any arguments in any state. */
public final class RoomRuns {
    private static final int[] ODD = {Integer.MIN_VALUE, -1000, -10, -9, -3, -2, -1, 0, 1, 2, 3, 4, 5, 6, 7, 8, 11, 12, 15,
        16, 17, 18, 25, 26, 29, 30, 40, 41, 48, 49, 50, 97, 99, 100, 126, 127, 999, 1000, 1039, 1100, 1101, Integer.MAX_VALUE};
    private static final int CALLS = 512;
    // Some 20,000 fields and elements, most of them bytes.
    private static final long MOST_BYTES_OF_AN_OBJECT = 80_000;
    private static final long MOST_BYTES_OF_A_RUN = 10_000;

    private static int wrong = 0;
    private static long seed = 1;
    private static long sum = 0;

    private static int below(int limit) {
        seed = seed * 6364136223846793005L + 1442695040888963407L;
        return (int) ((seed >>> 33) % limit);
    }

    private static int arg() {
        return ODD[below(ODD.length)];
    }

    private static int small(int limit) {
        return below(8) == 0 ? arg() : below(limit);
    }

    private static long call(TornStreams x) {
        switch (below(40)) {
            case 0: return x.clear();
            case 1: return x.define(small(6));
            case 2: return x.forget(arg());
            case 3: return x.letter(small(6), arg());
            case 4: return x.node(small(49), small(5));
            case 5: return x.next(small(49), small(26));
            case 6: return x.set(small(3), small(20));
            case 7: return x.finish(small(5));
            case 8: return x.flow(arg());
            case 9: return x.property(small(5), small(18));
            case 10: return x.byteAt(small(5), arg());
            case 11: return x.possible(small(5));
            case 12: return x.read(small(5), small(8));
            case 13: return x.find(arg(), small(4));
            case 14: return x.told(arg());
            case 15: return x.ifSegment(small(5), small(60));
            case 16: return x.replay(small(5), small(4));
            case 17: return x.evasions(small(5));
            case 18: return x.nearest(small(5));
            case 19: return x.undo();
            case 20: return x.digest();
            case 21: case 22: case 23: case 24: case 25: case 26: case 27: case 28:
                return x.segment(small(5), below(30) == 0 ? arg() : below(60));
            default: return x.type(below(20) == 0 ? arg() : "aab%6c".charAt(below(6)));
        }
    }

    private static void due(String what, long got, long most) {
        if (got > most) {
            wrong++;
            System.out.println(what + ": " + got + " bytes, at most " + most + " are due");
        }
    }

    public static void main(String[] args) {
        com.sun.management.ThreadMXBean meter =
            (com.sun.management.ThreadMXBean) ManagementFactory.getThreadMXBean();
        long thread = Thread.currentThread().getId();
        meter.getThreadAllocatedBytes(thread);
        int runs = 2000;
        for (int run = 0; run < runs; run++) {
            long start = meter.getThreadAllocatedBytes(thread);
            TornStreams x = new TornStreams();
            long made = meter.getThreadAllocatedBytes(thread);
            try {
                for (int i = 0; i < CALLS; i++) {
                    sum += call(x);
                }
            } catch (Throwable t) {
                wrong++;
                System.out.println("run " + run + " threw " + t);
                t.printStackTrace(System.out);
                break;
            }
            long end = meter.getThreadAllocatedBytes(thread);
            if (run > 0) {
                due("a new object", made - start, MOST_BYTES_OF_AN_OBJECT);
                due("the calls of run " + run, end - made, MOST_BYTES_OF_A_RUN);
            }
            if (wrong > 5) {
                break;
            }
        }
        System.out.println(runs + " runs with odd arguments, " + wrong + " faults (sum of answers " + sum + ")");
        if (wrong != 0) {
            System.exit(1);
        }
    }
}
