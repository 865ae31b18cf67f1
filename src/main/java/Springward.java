/**
 * A mountain of cells that hold water and lead it on to a spring, the wells and lots of bottles
 * that are filled from it, and the inquiries whence the water in a lot came.
 */
public final class Springward {
    public static final int NONE = -1;
    public static final int FOREST = 0, GRASS = 1, FIELD = 2;
    public static final int MINERAL = 0, SPRING = 1, TABLE = 2;

    private static final int CELLS = 10;
    private static final int COMPOUNDS = 8;
    private static final int TREATMENTS = 6;
    private static final int MOST_WELLS = 6;
    private static final int MOST_LOTS = 40;
    private static final int LAST_YEAR = 300;
    private static final int LONGEST_HOLD = 40;
    private static final int SHORT_TRAVEL = 5;
    private static final int LONGEST_CONTRACT = 30;
    private static final int HIGHEST_PAY = 1000;
    private static final int LONGEST_PASS = 20;
    private static final int MOST_RAIN = 1000;
    private static final int HIGHEST_PERMIT = 10000;
    private static final int HIGHEST_LIMIT = 100000;
    private static final int HIGHEST_SHARE = 100;
    private static final int LARGEST_LOT = 1000;
    private static final int MINERAL_AGE = 10;
    private static final int MINERAL_NITRATE = 5;
    private static final int SPRING_NITRATE = 8;
    private static final int MINERAL_TREATMENTS = 1;
    private static final int SPRING_TREATMENTS = 3;

    private final Cell[] cells;
    private final Well[] wells;
    private final Lot[] lots;
    private final Row spring;
    private final Journal journal;
    private int wellCount;
    private int lotCount;
    private int now;
    private int cents;
    private Cell droughtCell;
    private int firstLimit;
    private int secondLimit;
    private int forbidden;
    private long fallen;
    private long sprung;
    private long paid;
    private long villageCents;

    public Springward() {
        cells = new Cell[CELLS];
        Cell lower = null;
        for (int c = 0; c < CELLS; c++) {
            lower = new Cell(c, lower);
            cells[c] = lower;
        }
        droughtCell = cells[0];
        wells = new Well[MOST_WELLS];
        lots = new Lot[MOST_LOTS];
        spring = new Row();
        journal = new Journal();
        cents = 1;
    }

    // ---- the mountain

    public int rock(int cell, int years) throws IndexOutOfBoundsException, IllegalArgumentException {
        Cell at = cellAt(cell);
        needRange(years, 1, LONGEST_HOLD);
        int was = at.holds;
        at.holds = years;
        return was;
    }

    public int land(int cell, int land)
            throws IndexOutOfBoundsException, IllegalArgumentException, IllegalStateException {
        Cell at = cellAt(cell);
        needRange(land, FOREST, FIELD);
        needState(at.contractYears == 0);
        int was = at.land;
        at.land = land;
        return was;
    }

    public int lead(int cell, int to) throws IndexOutOfBoundsException, IllegalArgumentException {
        Cell at = cellAt(cell);
        Cell target = to == NONE ? null : cellAt(to);
        needArgument(to < cell);
        int was = at.leadsTo();
        at.lower = target;
        return was;
    }

    public int spill(int cell, int compound) throws IndexOutOfBoundsException, IllegalStateException {
        Cell at = cellAt(cell);
        needIndex(compound, COMPOUNDS);
        needState(at.travel() > SHORT_TRAVEL);
        at.waiting |= 1 << compound;
        return at.waiting;
    }

    public void contract(int cell, int years, int pay)
            throws IndexOutOfBoundsException, IllegalArgumentException, IllegalStateException {
        Cell at = cellAt(cell);
        needRange(years, 1, LONGEST_CONTRACT);
        needRange(pay, 0, HIGHEST_PAY);
        needState(at.land == FIELD && at.contractYears == 0);
        at.contractYears = years;
        at.contractPay = pay;
    }

    public int pass(int years, int rain) throws IllegalArgumentException, IllegalStateException {
        needRange(years, 1, LONGEST_PASS);
        needRange(rain, 0, MOST_RAIN);
        needState(now + years <= LAST_YEAR);
        for (int y = 0; y < years; y++) {
            passOne(rain);
        }
        return now;
    }

    private void passOne(int rain) {
        leadOn();
        if (rain > 0) {
            rainOn(rain);
        }
        payContracts();
        now++;
        for (int w = 0; w < wellCount; w++) {
            wells[w].took = 0;
        }
    }

    // A cell leads to lower ones alone, so by rising cells none has got anything yet at its turn.
    private void leadOn() {
        spring.clear();
        for (int c = 0; c < CELLS; c++) {
            Cell at = cells[c];
            int units = at.yearly();
            Row to = at.lower == null ? spring : at.lower.row;
            to.append(at.row.take(units));
            journal.note(c, at.leadsTo(), units);
        }
        sprung += spring.units;
    }

    private void rainOn(int rain) {
        for (int c = 0; c < CELLS; c++) {
            cells[c].catchRain(now, rain);
        }
        journal.note(Journal.SKY, now, rain);
        fallen += (long) rain * CELLS;
    }

    private void payContracts() {
        for (int c = 0; c < CELLS; c++) {
            Cell at = cells[c];
            if (at.contractYears > 0) {
                paid += at.contractPay;
                at.contractYears--;
            }
        }
    }

    // ---- wells, lots

    public int well(int cell, int permit)
            throws IndexOutOfBoundsException, IllegalArgumentException, IllegalStateException {
        Cell at = cellAt(cell);
        needRange(permit, 0, HIGHEST_PERMIT);
        needState(wellCount < MOST_WELLS);
        int number = wellCount;
        wells[number] = new Well(at, permit);
        wellCount++;
        return number;
    }

    public void drought(int cell, int first, int second)
            throws IndexOutOfBoundsException, IllegalArgumentException {
        Cell at = cellAt(cell);
        needRange(first, 0, HIGHEST_LIMIT);
        needRange(second, 0, first);
        droughtCell = at;
        firstLimit = first;
        secondLimit = second;
    }

    public int share(int cents) throws IllegalArgumentException {
        needRange(cents, 0, HIGHEST_SHARE);
        int was = this.cents;
        this.cents = cents;
        return was;
    }

    public int bottle(int well, int units)
            throws IndexOutOfBoundsException, IllegalArgumentException, IllegalStateException {
        Well source = wellAt(well);
        needRange(units, 1, LARGEST_LOT);
        Row row = source.cell.row;
        needState(units <= mayTakeStill(source) && units <= row.units && lotCount < MOST_LOTS);
        int number = lotCount;
        lots[number] = new Lot(well, now, row.take(units));
        lotCount++;
        source.took += units;
        villageCents += (long) units * cents;
        journal.note(source.cell.number, Journal.FIRST_LOT + number, units);
        return number;
    }

    private int mayTakeStill(Well well) {
        int has = droughtCell.row.units;
        int may = well.permit;
        if (has < secondLimit) {
            may = 0;
        } else if (has < firstLimit) {
            may = well.permit / 2;
        }
        return Math.max(0, may - well.took);
    }

    public int treat(int lot, int treatment) throws IndexOutOfBoundsException, IllegalStateException {
        Lot at = lotAt(lot);
        needIndex(treatment, TREATMENTS);
        needState(at.label == NONE);
        at.treatments |= 1 << treatment;
        return at.treatments;
    }

    public boolean label(int lot, int water)
            throws IndexOutOfBoundsException, IllegalArgumentException, IllegalStateException {
        Lot at = lotAt(lot);
        needRange(water, MINERAL, TABLE);
        needState(at.label == NONE);
        at.label = water;
        at.isTrue = at.isOfKind(water, forbidden);
        return at.isTrue;
    }

    public int forbid(int treatment) throws IndexOutOfBoundsException, IllegalStateException {
        needIndex(treatment, TREATMENTS);
        int bit = 1 << treatment;
        needState((forbidden & bit) == 0);
        forbidden |= bit;
        int recalls = 0;
        for (int l = 0; l < lotCount; l++) {
            if (lots[l].isRecalledBy(bit)) {
                lots[l].recalled = true;
                recalls++;
            }
        }
        return recalls;
    }

    // ---- what is asked

    public int year() {
        return now;
    }

    public int cellOf(int cell, int what) throws IndexOutOfBoundsException, IllegalArgumentException {
        Cell at = cellAt(cell);
        needRange(what, 0, 6);
        switch (what) {
            case 0: return at.row.units;
            case 1: return at.holds;
            case 2: return at.land;
            case 3: return at.leadsTo();
            case 4: return at.travel();
            case 5: return at.contractYears;
            default: return at.row.frontYear();
        }
    }

    public int flow(int what) throws IllegalArgumentException {
        needRange(what, 0, 3);
        switch (what) {
            case 0: return spring.units;
            case 1: return spring.nitrate();
            case 2: return spring.compounds();
            default: return spring.oldest();
        }
    }

    public int wellOf(int well, int what) throws IndexOutOfBoundsException, IllegalArgumentException {
        Well at = wellAt(well);
        needRange(what, 0, 3);
        switch (what) {
            case 0: return at.cell.number;
            case 1: return at.permit;
            case 2: return at.took;
            default: return mayTakeStill(at);
        }
    }

    public int lotOf(int lot, int what) throws IndexOutOfBoundsException, IllegalArgumentException {
        Lot at = lotAt(lot);
        needRange(what, 0, 10);
        switch (what) {
            case 0: return at.well;
            case 1: return at.water.units;
            case 2: return at.water.nitrate();
            case 3: return at.bottled;
            case 4: return at.water.compounds();
            case 5: return at.leastAge();
            case 6: return at.greatestAge();
            case 7: return at.treatments;
            case 8: return at.label;
            case 9: return at.truth();
            default: return at.recalled ? 1 : 0;
        }
    }

    public float age(int lot) throws IndexOutOfBoundsException {
        return lotAt(lot).meanAge();
    }

    public int best(int lot) throws IndexOutOfBoundsException {
        Lot at = lotAt(lot);
        if (at.isOfKind(MINERAL, forbidden)) {
            return MINERAL;
        }
        return at.isOfKind(SPRING, forbidden) ? SPRING : TABLE;
    }

    public int from(int lot, int cell, int year) throws IndexOutOfBoundsException {
        Lot at = lotAt(lot);
        needIndex(cell, CELLS);
        return at.water.unitsThatFell(cell, year);
    }

    public int fromAnew(int lot, int cell, int year) throws IndexOutOfBoundsException {
        needIndex(lot, lotCount);
        needIndex(cell, CELLS);
        return journal.follow(cell, year, Journal.FIRST_LOT + lot);
    }

    public int whence(int lot, int compound) throws IndexOutOfBoundsException {
        Lot at = lotAt(lot);
        needIndex(compound, COMPOUNDS);
        Portion first = at.water.earliestWith(1 << compound);
        return first == null ? NONE : 1000 * first.cell + first.year;
    }

    public long sum(int what) throws IllegalArgumentException {
        needRange(what, 0, 6);
        switch (what) {
            case 0: return fallen;
            case 1: return unitsInCells();
            case 2: return sprung;
            case 3: return unitsBottled();
            case 4: return paid;
            case 5: return villageCents;
            default: return falseLabels();
        }
    }

    private long unitsInCells() {
        long units = 0;
        for (int c = 0; c < CELLS; c++) {
            units += cells[c].row.units;
        }
        return units;
    }

    private long unitsBottled() {
        long units = 0;
        for (int l = 0; l < lotCount; l++) {
            units += lots[l].water.units;
        }
        return units;
    }

    private long falseLabels() {
        long labels = 0;
        for (int l = 0; l < lotCount; l++) {
            if (lots[l].truth() == 0) {
                labels++;
            }
        }
        return labels;
    }

    // ---- what calls need

    private Cell cellAt(int cell) {
        needIndex(cell, CELLS);
        return cells[cell];
    }

    private Well wellAt(int well) {
        needIndex(well, wellCount);
        return wells[well];
    }

    private Lot lotAt(int lot) {
        needIndex(lot, lotCount);
        return lots[lot];
    }

    private static void needIndex(int index, int count) {
        if (index < 0 || index >= count) {
            throw new IndexOutOfBoundsException("there is no such number");
        }
    }

    private static void needRange(int value, int least, int most) {
        needArgument(value >= least && value <= most);
    }

    private static void needArgument(boolean fits) {
        if (!fits) {
            throw new IllegalArgumentException("an argument is out of range");
        }
    }

    private static void needState(boolean allows) {
        if (!allows) {
            throw new IllegalStateException("this may not be done now");
        }
    }

    /** Some units that fell in one year on one cell. */
    private static final class Portion {
        final int cell;
        final int year;
        final int nitrate;
        final int compounds;
        int units;
        Portion next;

        Portion(int cell, int year, int nitrate, int compounds, int units) {
            this.cell = cell;
            this.year = year;
            this.nitrate = nitrate;
            this.compounds = compounds;
            this.units = units;
        }

        Portion splitOff(int part) {
            units -= part;
            return new Portion(cell, year, nitrate, compounds, part);
        }
    }

    /** Portions one behind the other: of a cell, of a lot, or of the spring's last year. */
    private static final class Row {
        int units;
        private Portion first;
        private Portion last;

        void clear() {
            units = 0;
            first = null;
            last = null;
        }

        void append(Portion chain) {
            if (chain == null) {
                return;
            }
            if (last == null) {
                first = chain;
            } else {
                last.next = chain;
            }
            for (Portion p = chain; p != null; p = p.next) {
                units += p.units;
                last = p;
            }
        }

        // What is taken keeps its order, as a chain that no row holds any more.
        Portion take(int wanted) {
            Portion front = first;
            Portion end = null;
            Portion stays = first;
            int left = wanted;
            while (stays != null && stays.units <= left) {
                left -= stays.units;
                end = stays;
                stays = stays.next;
            }
            if (stays != null && left > 0) {
                Portion part = stays.splitOff(left);
                left = 0;
                if (end == null) {
                    front = part;
                } else {
                    end.next = part;
                }
                end = part;
            }
            if (end == null) {
                return null;
            }
            end.next = null;
            units -= wanted - left;
            first = stays;
            last = stays == null ? null : last;
            return front;
        }

        int frontYear() {
            return first == null ? NONE : first.year;
        }

        int nitrate() {
            int together = 0;
            for (Portion p = first; p != null; p = p.next) {
                together += p.units * p.nitrate;
            }
            return together;
        }

        int compounds() {
            int set = 0;
            for (Portion p = first; p != null; p = p.next) {
                set |= p.compounds;
            }
            return set;
        }

        int oldest() {
            int year = frontYear();
            for (Portion p = first; p != null; p = p.next) {
                year = Math.min(year, p.year);
            }
            return year;
        }

        int youngest() {
            int year = frontYear();
            for (Portion p = first; p != null; p = p.next) {
                year = Math.max(year, p.year);
            }
            return year;
        }

        int agesIn(int year) {
            int together = 0;
            for (Portion p = first; p != null; p = p.next) {
                together += p.units * (year - p.year);
            }
            return together;
        }

        int unitsThatFell(int cell, int year) {
            int found = 0;
            for (Portion p = first; p != null; p = p.next) {
                if (p.cell == cell && p.year == year) {
                    found += p.units;
                }
            }
            return found;
        }

        Portion earliestWith(int bit) {
            Portion found = null;
            for (Portion p = first; p != null; p = p.next) {
                if ((p.compounds & bit) != 0 && (found == null || isEarlier(p, found))) {
                    found = p;
                }
            }
            return found;
        }

        private static boolean isEarlier(Portion one, Portion other) {
            return one.year < other.year || one.year == other.year && one.cell < other.cell;
        }
    }

    /** A part of the mountain; it leads to the spring if there is no lower one. */
    private static final class Cell {
        final int number;
        final Row row = new Row();
        Cell lower;
        int holds = 5;
        int land = FOREST;
        int contractYears;
        int contractPay;
        int waiting;

        Cell(int number, Cell lower) {
            this.number = number;
            this.lower = lower;
        }

        int leadsTo() {
            return lower == null ? NONE : lower.number;
        }

        int travel() {
            int years = 0;
            for (Cell c = this; c != null; c = c.lower) {
                years += c.holds;
            }
            return years;
        }

        int yearly() {
            return holds < 1 ? 0 : row.units / holds;
        }

        void catchRain(int year, int rain) {
            row.append(new Portion(number, year, nitrateOfRain(), waiting, rain));
            waiting = 0;
        }

        private int nitrateOfRain() {
            if (land == FOREST) {
                return 1;
            }
            return land == GRASS || contractYears > 0 ? 3 : 10;
        }
    }

    /** A well in a cell. */
    private static final class Well {
        final Cell cell;
        final int permit;
        int took;

        Well(Cell cell, int permit) {
            this.cell = cell;
            this.permit = permit;
        }
    }

    /** A lot of bottles, with each portion in them. */
    private static final class Lot {
        final int well;
        final int bottled;
        final Row water = new Row();
        int treatments;
        int label = NONE;
        boolean isTrue;
        boolean recalled;

        Lot(int well, int bottled, Portion portions) {
            this.well = well;
            this.bottled = bottled;
            water.append(portions);
        }

        int leastAge() {
            return bottled - water.youngest();
        }

        int greatestAge() {
            return bottled - water.oldest();
        }

        float meanAge() {
            if (water.units < 1) {
                return 0f;
            }
            return (float) water.agesIn(bottled) / (float) water.units;
        }

        int truth() {
            if (label == NONE) {
                return NONE;
            }
            return isTrue ? 1 : 0;
        }

        boolean isOfKind(int kind, int forbidden) {
            switch (kind) {
                case MINERAL:
                    return hasAtMost(MINERAL_TREATMENTS & ~forbidden, MINERAL_NITRATE)
                            && water.compounds() == 0 && leastAge() >= MINERAL_AGE;
                case SPRING:
                    return hasAtMost(SPRING_TREATMENTS & ~forbidden, SPRING_NITRATE);
                default:
                    return true;
            }
        }

        private boolean hasAtMost(int listed, int nitrateForEach) {
            return (treatments & ~listed) == 0 && water.nitrate() <= nitrateForEach * water.units;
        }

        boolean isRecalledBy(int bit) {
            boolean listed = label == MINERAL || label == SPRING;
            return listed && !recalled && (treatments & bit) != 0;
        }
    }

    /** Some units that moved at once: from a cell, or as rain from the sky to every cell. */
    private static final class Move {
        final int from;
        final int to;
        final int units;
        Move next;

        Move(int from, int to, int units) {
            this.from = from;
            this.to = to;
            this.units = units;
        }
    }

    /** Followed water in a cell; its place counts the units that came to the cell ahead of it. */
    private static final class Piece {
        int place;
        int units;
        Piece next;
    }

    /** A cell as it is followed: how much came and went, and the pieces that are in it. */
    private static final class Tank {
        int came;
        int went;
        Piece first;
        Piece last;

        void add(Piece piece) {
            piece.next = null;
            if (last == null) {
                first = piece;
            } else {
                last.next = piece;
            }
            last = piece;
        }

        void startAt(Piece piece) {
            first = piece;
            if (piece == null) {
                last = null;
            } else if (piece.next == null) {
                last = piece;
            }
        }
    }

    /**
     * All that moved, in its order. Water is followed by these moves alone, without a look at any
     * portion, so that it is found once more.
     */
    private static final class Journal {
        static final int SKY = -2;
        static final int FIRST_LOT = CELLS;

        private final Tank[] tanks;
        private Move first;
        private Move last;
        // Pieces are used again, as each call that follows water needs up to a thousand of them.
        private Piece spare;

        Journal() {
            tanks = new Tank[CELLS];
            for (int c = 0; c < CELLS; c++) {
                tanks[c] = new Tank();
            }
        }

        void note(int from, int to, int units) {
            if (units < 1) {
                return;
            }
            Move move = new Move(from, to, units);
            if (last == null) {
                first = move;
            } else {
                last.next = move;
            }
            last = move;
        }

        // How much of what fell on the cell in the year went to the target.
        int follow(int cell, int year, int target) {
            emptyTanks();
            for (Move m = first; m != null; m = m.next) {
                if (m.from == SKY) {
                    rainAgain(m.units, m.to == year ? cell : NONE);
                } else {
                    int followed = moveAgain(m);
                    if (m.to == target) {
                        return followed;
                    }
                }
            }
            return 0;
        }

        private void emptyTanks() {
            for (int c = 0; c < CELLS; c++) {
                Tank tank = tanks[c];
                Piece piece = tank.first;
                while (piece != null) {
                    Piece behind = piece.next;
                    putAway(piece);
                    piece = behind;
                }
                tank.startAt(null);
                tank.came = 0;
                tank.went = 0;
            }
        }

        private void rainAgain(int units, int followedCell) {
            for (int c = 0; c < CELLS; c++) {
                Tank tank = tanks[c];
                if (c == followedCell) {
                    tank.add(newPiece(tank.came, units));
                }
                tank.came += units;
            }
        }

        private int moveAgain(Move move) {
            Tank from = tankAt(move.from);
            Tank to = tankAt(move.to);
            if (from == null) {
                return 0;
            }
            int end = from.went + move.units;
            int followed = 0;
            Piece piece = from.first;
            while (piece != null && piece.place < end) {
                Piece behind = cut(piece, end);
                followed += piece.units;
                if (to == null) {
                    putAway(piece);
                } else {
                    piece.place += to.came - from.went;
                    to.add(piece);
                }
                piece = behind;
            }
            from.startAt(piece);
            from.went = end;
            if (to != null) {
                to.came += move.units;
            }
            return followed;
        }

        // What is behind the piece, with the rest of it that lies at the end or behind it.
        private Piece cut(Piece piece, int end) {
            int rest = piece.place + piece.units - end;
            if (rest <= 0) {
                return piece.next;
            }
            Piece behind = newPiece(end, rest);
            behind.next = piece.next;
            piece.units -= rest;
            return behind;
        }

        private Tank tankAt(int number) {
            return number < 0 || number >= CELLS ? null : tanks[number];
        }

        private Piece newPiece(int place, int units) {
            Piece piece = spare;
            if (piece == null) {
                piece = new Piece();
            } else {
                spare = piece.next;
            }
            piece.place = place;
            piece.units = units;
            return piece;
        }

        private void putAway(Piece piece) {
            piece.next = spare;
            spare = piece;
        }
    }
}
