import java.lang.management.ManagementFactory;

/** What the dearest runs of 512 calls make stays far below the room of one run. */
public final class RoomTest {
    // The room is some 600,000 objects and 7.3 million elements: at 8 bytes each, some 58 million.
    private static final long MOST_BYTES = 3_000_000;

    private RoomTest() {
    }

    public static void main(String[] args) {
        com.sun.management.ThreadMXBean threads =
                (com.sun.management.ThreadMXBean) ManagementFactory.getThreadMXBean();
        dearest(1);
        for (int years : new int[] {1, 2, 40}) {
            long ahead = threads.getThreadAllocatedBytes(Thread.currentThread().getId());
            long told = dearest(years);
            long bytes = threads.getThreadAllocatedBytes(Thread.currentThread().getId()) - ahead;
            System.out.println("rock " + years + ": " + bytes + " bytes, told " + told);
            Check.equal("rock " + years + " stays in its room", "" + (bytes < MOST_BYTES), "true");
        }
        Check.end();
    }

    /** All years with the most rain, all lots, and then nothing but the dearest question. */
    private static long dearest(int years) {
        Springward x = new Springward();
        for (int c = 0; c < 10; c++) {
            x.rock(c, years);
        }
        x.well(0, 10000);
        int calls = 12;
        for (int i = 0; i < 15; i++) {
            x.pass(20, 1000);
            calls++;
        }
        for (int l = 0; l < 40; l++) {
            x.bottle(0, 1 + l);
            calls++;
        }
        long told = 0;
        for (; calls < 512; calls++) {
            told += x.fromAnew(39, 9, calls % 300);
        }
        return told;
    }
}
