import java.lang.management.ManagementFactory;

/** What the dearest runs of 512 calls make stays far below the room of one run. */
public final class RoomTest {
    // The room is some 600,000 objects and 7.3 million elements: at 8 bytes each, some 58 million.
    private static final long MOST_BYTES = 500_000;

    private RoomTest() {
    }

    public static void main(String[] args) {
        com.sun.management.ThreadMXBean threads =
                (com.sun.management.ThreadMXBean) ManagementFactory.getThreadMXBean();
        dearest(1, 1000);
        for (int years : new int[] {1, 2, 10, 20, 40}) {
            for (int rain : new int[] {0, 7, 1000}) {
                long ahead = threads.getThreadAllocatedBytes(Thread.currentThread().getId());
                long told = dearest(years, rain);
                long bytes = threads.getThreadAllocatedBytes(Thread.currentThread().getId()) - ahead;
                String run = "rock " + years + ", rain " + rain;
                System.out.println(run + ": " + bytes + " bytes, told " + told);
                Check.equal(run + " stays in its room", "" + (bytes < MOST_BYTES), "true");
            }
        }
        Check.end();
    }

    /**
     * The most rain in the first year, which drips on from cell to cell for 299 more, and then
     * nothing but the dearest question.
     */
    private static long dearest(int years, int rain) {
        Springward x = new Springward();
        for (int c = 0; c < 10; c++) {
            x.rock(c, years);
        }
        x.well(0, 10000);
        x.well(9, 10000);
        x.pass(1, 1000);
        int calls = 13;
        for (int i = 0; i < 14; i++) {
            x.pass(20, rain);
            calls++;
        }
        x.pass(18, rain);
        x.pass(1, 1000);
        for (int l = 0; l < 40; l++) {
            x.bottle(l % 2, 1 + l / 2);
            calls++;
        }
        long told = 0;
        for (calls += 2; calls < 512; calls++) {
            told += x.fromAnew(39, 9, calls % 2 == 0 ? 0 : 299);
        }
        return told;
    }
}
