/**
 * The document once more, in the slowest and plainest way: each single unit is kept by itself. The
 * tests compare the program with it.
 */
final class Model {
    private static final int SPRING_FLOW = 10;

    /** Units one behind the other, each by the number of the rain that it fell in. */
    private static final class Units {
        int[] of = new int[16];
        int front = 0;
        int end = 0;

        int size() {
            return end - front;
        }

        void put(int unit) {
            if (end == of.length) {
                of = java.util.Arrays.copyOf(of, 2 * end);
            }
            of[end++] = unit;
        }

        int poll() {
            return of[front++];
        }
    }

    private final Units[] rows = new Units[11];
    private final int[] holds = new int[10];
    private final int[] lands = new int[10];
    private final int[] leads = new int[10];
    private final int[] waits = new int[10];
    private final int[] contractYears = new int[10];
    private final int[] pays = new int[10];
    private final int[] nitrateOf = new int[3000];
    private final int[] compoundsOf = new int[3000];
    private final int[] wellCell = new int[6];
    private final int[] permits = new int[6];
    private final int[] took = new int[6];
    private final int[][] lots = new int[40][];
    private final int[] lotWell = new int[40];
    private final int[] lotYear = new int[40];
    private final int[] treatments = new int[40];
    private final int[] labels = new int[40];
    private final int[] truths = new int[40];
    private final boolean[] recalled = new boolean[40];
    private final boolean[] forbidden = new boolean[6];
    private final long[] sums = new long[7];
    private int wells = 0;
    private int lotCount = 0;
    private int now = 0;
    private int cents = 1;
    private int droughtCell = 0;
    private int firstLimit = 0;
    private int secondLimit = 0;

    Model() {
        for (int c = 0; c < 10; c++) {
            rows[c] = new Units();
            holds[c] = 5;
            leads[c] = c - 1;
        }
        rows[SPRING_FLOW] = new Units();
    }

    private static void index(int i, int n) {
        if (i < 0 || i >= n) {
            throw new IndexOutOfBoundsException();
        }
    }

    private static void argument(boolean good) {
        if (!good) {
            throw new IllegalArgumentException();
        }
    }

    private static void state(boolean good) {
        if (!good) {
            throw new IllegalStateException();
        }
    }

    int rock(int cell, int years) {
        index(cell, 10);
        argument(1 <= years && years <= 40);
        int was = holds[cell];
        holds[cell] = years;
        return was;
    }

    int land(int cell, int land) {
        index(cell, 10);
        argument(land == 0 || land == 1 || land == 2);
        state(contractYears[cell] == 0);
        int was = lands[cell];
        lands[cell] = land;
        return was;
    }

    int lead(int cell, int to) {
        index(cell, 10);
        index(to + 1, 11);
        argument(to < cell);
        int was = leads[cell];
        leads[cell] = to;
        return was;
    }

    private int travel(int cell) {
        return cell == -1 ? 0 : holds[cell] + travel(leads[cell]);
    }

    int spill(int cell, int compound) {
        index(cell, 10);
        index(compound, 8);
        state(travel(cell) >= 6);
        waits[cell] |= 1 << compound;
        return waits[cell];
    }

    String contract(int cell, int years, int pay) {
        index(cell, 10);
        argument(1 <= years && years <= 30 && 0 <= pay && pay <= 1000);
        state(lands[cell] == 2 && contractYears[cell] == 0);
        contractYears[cell] = years;
        pays[cell] = pay;
        return "nothing";
    }

    int pass(int years, int rain) {
        argument(1 <= years && years <= 20 && 0 <= rain && rain <= 1000);
        state(now + years <= 300);
        for (int y = 0; y < years; y++) {
            oneYear(rain);
        }
        return now;
    }

    private void oneYear(int rain) {
        rows[SPRING_FLOW] = new Units();
        int[] takes = new int[10];
        for (int c = 0; c < 10; c++) {
            takes[c] = rows[c].size() / holds[c];
        }
        for (int c = 0; c < 10; c++) {
            Units to = rows[leads[c] == -1 ? SPRING_FLOW : leads[c]];
            for (int u = 0; u < takes[c]; u++) {
                to.put(rows[c].poll());
            }
        }
        sums[2] += rows[SPRING_FLOW].size();
        for (int c = 0; c < 10 && rain > 0; c++) {
            int fall = c * 300 + now;
            boolean treaty = contractYears[c] > 0;
            nitrateOf[fall] = lands[c] == 0 ? 1 : lands[c] == 1 || treaty ? 3 : 10;
            compoundsOf[fall] = waits[c];
            waits[c] = 0;
            for (int u = 0; u < rain; u++) {
                rows[c].put(fall);
            }
            sums[0] += rain;
        }
        for (int c = 0; c < 10; c++) {
            if (contractYears[c] > 0) {
                sums[4] += pays[c];
                contractYears[c]--;
            }
        }
        now++;
        java.util.Arrays.fill(took, 0);
    }

    int well(int cell, int permit) {
        index(cell, 10);
        argument(0 <= permit && permit <= 10000);
        state(wells < 6);
        wellCell[wells] = cell;
        permits[wells] = permit;
        return wells++;
    }

    String drought(int cell, int first, int second) {
        index(cell, 10);
        argument(0 <= second && second <= first && first <= 100000);
        droughtCell = cell;
        firstLimit = first;
        secondLimit = second;
        return "nothing";
    }

    int share(int cents) {
        argument(0 <= cents && cents <= 100);
        int was = this.cents;
        this.cents = cents;
        return was;
    }

    private int still(int well) {
        int has = rows[droughtCell].size();
        int may = has < secondLimit ? 0 : has < firstLimit ? permits[well] / 2 : permits[well];
        return may < took[well] ? 0 : may - took[well];
    }

    int bottle(int well, int units) {
        index(well, wells);
        argument(1 <= units && units <= 1000);
        Units row = rows[wellCell[well]];
        state(units <= still(well));
        state(units <= row.size());
        state(lotCount < 40);
        int[] lot = new int[units];
        for (int u = 0; u < units; u++) {
            lot[u] = row.poll();
        }
        lots[lotCount] = lot;
        lotWell[lotCount] = well;
        lotYear[lotCount] = now;
        labels[lotCount] = -1;
        truths[lotCount] = -1;
        took[well] += units;
        sums[3] += units;
        sums[5] += (long) units * cents;
        return lotCount++;
    }

    int treat(int lot, int treatment) {
        index(lot, lotCount);
        index(treatment, 6);
        state(labels[lot] == -1);
        treatments[lot] |= 1 << treatment;
        return treatments[lot];
    }

    private boolean isMineral(int lot) {
        for (int t = 0; t < 6; t++) {
            if ((treatments[lot] >> t & 1) == 1 && (t > 0 || forbidden[t])) {
                return false;
            }
        }
        for (int unit : lots[lot]) {
            if (compoundsOf[unit] != 0 || lotYear[lot] - unit % 300 < 10) {
                return false;
            }
        }
        return nitrate(lots[lot]) <= 5 * lots[lot].length;
    }

    private boolean isSpring(int lot) {
        for (int t = 0; t < 6; t++) {
            if ((treatments[lot] >> t & 1) == 1 && (t > 1 || forbidden[t])) {
                return false;
            }
        }
        return nitrate(lots[lot]) <= 8 * lots[lot].length;
    }

    private int nitrate(int[] units) {
        int all = 0;
        for (int unit : units) {
            all += nitrateOf[unit];
        }
        return all;
    }

    private int compounds(int[] units) {
        int all = 0;
        for (int unit : units) {
            all |= compoundsOf[unit];
        }
        return all;
    }

    private int oldest(int[] units) {
        int year = units.length == 0 ? -1 : 1000;
        for (int unit : units) {
            year = Math.min(year, unit % 300);
        }
        return year;
    }

    private int youngest(int[] units) {
        int year = -1;
        for (int unit : units) {
            year = Math.max(year, unit % 300);
        }
        return year;
    }

    boolean label(int lot, int water) {
        index(lot, lotCount);
        argument(water == 0 || water == 1 || water == 2);
        state(labels[lot] == -1);
        labels[lot] = water;
        boolean good = water == 2 || (water == 0 ? isMineral(lot) : isSpring(lot));
        truths[lot] = good ? 1 : 0;
        sums[6] += good ? 0 : 1;
        return good;
    }

    int forbid(int treatment) {
        index(treatment, 6);
        state(!forbidden[treatment]);
        forbidden[treatment] = true;
        int recalls = 0;
        for (int l = 0; l < lotCount; l++) {
            boolean told = labels[l] == 0 || labels[l] == 1;
            if (told && !recalled[l] && (treatments[l] >> treatment & 1) == 1) {
                recalled[l] = true;
                recalls++;
            }
        }
        return recalls;
    }

    int year() {
        return now;
    }

    int cellOf(int cell, int what) {
        index(cell, 10);
        argument(0 <= what && what <= 6);
        Units row = rows[cell];
        int front = row.size() == 0 ? -1 : row.of[row.front] % 300;
        return new int[] {row.size(), holds[cell], lands[cell], leads[cell], travel(cell),
            contractYears[cell], front}[what];
    }

    int flow(int what) {
        argument(0 <= what && what <= 3);
        Units row = rows[SPRING_FLOW];
        int[] units = java.util.Arrays.copyOfRange(row.of, row.front, row.end);
        return new int[] {units.length, nitrate(units), compounds(units), oldest(units)}[what];
    }

    int wellOf(int well, int what) {
        index(well, wells);
        argument(0 <= what && what <= 3);
        return new int[] {wellCell[well], permits[well], took[well], still(well)}[what];
    }

    int lotOf(int lot, int what) {
        index(lot, lotCount);
        argument(0 <= what && what <= 10);
        int[] units = lots[lot];
        return new int[] {lotWell[lot], units.length, nitrate(units), lotYear[lot], compounds(units),
            lotYear[lot] - youngest(units), lotYear[lot] - oldest(units), treatments[lot],
            labels[lot], truths[lot], recalled[lot] ? 1 : 0}[what];
    }

    float age(int lot) {
        index(lot, lotCount);
        int all = 0;
        for (int unit : lots[lot]) {
            all += lotYear[lot] - unit % 300;
        }
        return (float) all / (float) lots[lot].length;
    }

    int best(int lot) {
        index(lot, lotCount);
        return isMineral(lot) ? 0 : isSpring(lot) ? 1 : 2;
    }

    int from(int lot, int cell, int year) {
        index(lot, lotCount);
        index(cell, 10);
        int found = 0;
        for (int unit : lots[lot]) {
            found += unit / 300 == cell && unit % 300 == year ? 1 : 0;
        }
        return found;
    }

    int whence(int lot, int compound) {
        index(lot, lotCount);
        index(compound, 8);
        int best = -1;
        for (int unit : lots[lot]) {
            if ((compoundsOf[unit] >> compound & 1) == 0) {
                continue;
            }
            boolean ahead = best == -1 || unit % 300 < best % 1000
                    || unit % 300 == best % 1000 && unit / 300 < best / 1000;
            best = ahead ? unit / 300 * 1000 + unit % 300 : best;
        }
        return best;
    }

    long sum(int what) {
        argument(0 <= what && what <= 6);
        if (what != 1) {
            return sums[what];
        }
        long all = 0;
        for (int c = 0; c < 10; c++) {
            all += rows[c].size();
        }
        return all;
    }
}
