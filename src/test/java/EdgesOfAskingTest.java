/** Promises 15 to 25, sentence by sentence: what is asked, at the edges and out of range. */
public final class EdgesOfAskingTest {
    private static final int FOREST = Springward.FOREST;
    private static final int GRASS = Springward.GRASS;
    private static final int FIELD = Springward.FIELD;
    private static final int MINERAL = Springward.MINERAL;
    private static final int SPRING = Springward.SPRING;
    private static final int TABLE = Springward.TABLE;
    private static final int NONE = Springward.NONE;

    private static final int[] NO_CELLS = Check.outside(0, 9);
    private static final int[] NO_WELLS = Check.outside(0, 5);
    private static final int[] NO_LOTS = Check.outside(0, 39);
    // Here there are three wells, or five lots.
    private static final Scene[] NOT_FULL = {Scene.BUSY, Scene.PARCHED, Scene.HALVED, Scene.LATE, Scene.LAST};
    private static final Scene[] NONE_YET = {Scene.NEW};

    private EdgesOfAskingTest() {
    }

    public static void main(String[] args) {
        promise15();
        promise16();
        promise16Front();
        promise16Refused();
        promise17();
        promise17Oldest();
        promise17Refused();
        promise18();
        promise18Refused();
        promise19();
        promise19Ages();
        promise19Label();
        promise19Refused();
        promise20();
        promise21();
        promise22();
        promise23();
        promise24();
        promise24Earliest();
        promise24Refused();
        promise25();
        promise25Most();
        askingChangesNothing();
        Doc.end();
    }

    private static Springward quiet() {
        Springward x = new Springward();
        x.rock(0, 40);
        x.lead(1, NONE);
        x.well(0, 10000);
        return x;
    }

    private static void noSuchLot(String what, Check.CallOfOne call) {
        Check.refusedOf(NO_LOTS, what, Check.INDEX, call);
        Check.refusedOf(new int[] {5, 39}, NOT_FULL, what + ", not yet", Check.INDEX, call);
        Check.refusedOf(new int[] {0, 1}, NONE_YET, what + ", none at all", Check.INDEX, call);
    }

    private static void promise15() {
        Doc.under("Promise 15: year");
        Doc.says("`int year()`: Returns the year.");
        Springward x = new Springward();
        Check.due("15 at first", 0, x, s -> s.year());
        for (int year = 1; year <= 300; year++) {
            int due = year;
            x.pass(1, 0);
            if (year < 100 || year > 290) {
                Check.due("15 year " + year, due, x, s -> s.year());
            }
        }
        Check.due("15 refused", Check.STATE, x, s -> s.pass(1, 0));
        Check.due("15 as it was", 300, x, s -> s.year());
    }

    private static void promise16() {
        Doc.under("Promise 16: cellOf");
        Doc.says("`int cellOf(int cell, int what)");
        Doc.says("- `cell`: 0 to 9");
        Springward x = new Springward();
        for (int c = 0; c < 10; c++) {
            x.rock(c, c + 2);
            x.land(c, c % 3);
            x.lead(c, c / 2 - 1);
        }
        x.contract(2, 30, 1);
        x.contract(5, 1, 1);
        int[] travel = {2, 3, 4 + 2, 5 + 2, 6 + 3, 7 + 3, 8 + 6, 9 + 6, 10 + 7, 11 + 7};
        for (int c = 0; c < 10; c++) {
            int[] due = {0, c + 2, c % 3, c / 2 - 1, travel[c], c == 2 ? 30 : c == 5 ? 1 : 0, NONE};
            told("16 ahead of rain, cell " + c, x, c, due);
        }
        x.pass(1, 1);
        for (int c = 0; c < 10; c++) {
            int[] due = {1, c + 2, c % 3, c / 2 - 1, travel[c], c == 2 ? 29 : 0, 0};
            told("16 behind rain, cell " + c, x, c, due);
        }
        Doc.says("- `what`: 0 how many units it has, 1 how many years it holds water, 2 its land, 3 to where it"
                + " leads, NONE, the spring, 4 the travel from it, 5 the years of its contract, 0 without one,"
                + " 6 the year in which the front of its row fell, NONE if it is dry");
        Springward most = new Springward();
        for (int c = 0; c < 10; c++) {
            most.rock(c, c == 0 ? 40 : 1);
        }
        most.pass(10, 1000);
        // By then the rain of year y is here from the cells up to 9 - y, and a 40th flows each year.
        int units = 0;
        for (int year = 0; year < 10; year++) {
            int came = year == 0 ? 1000 : 1000 + 1000 * Math.min(year, 9);
            units += came - units / 40;
        }
        Check.due("16 many units", units, most, s -> s.cellOf(0, 0));
        Check.due("16 units of a year", 1000, most, s -> s.cellOf(9, 0));
    }

    private static void told(String which, Springward x, int cell, int[] due) {
        for (int q = 0; q < 7; q++) {
            int what = q;
            Check.due(which + ", what " + q, due[q], x, s -> s.cellOf(cell, what));
        }
    }

    private static void promise16Front() {
        Doc.says("- `what`: 0 how many units it has");
        Springward x = new Springward();
        x.rock(0, 40);
        x.rock(1, 1);
        x.lead(2, NONE);
        x.well(0, 10000);
        Check.due("16 dry at first", NONE, x, s -> s.cellOf(0, 6));
        x.pass(3, 0);
        Check.due("16 dry still", NONE, x, s -> s.cellOf(0, 6));
        x.pass(1, 5);
        Check.due("16 the year of its first rain", 3, x, s -> s.cellOf(0, 6));
        x.bottle(0, 5);
        Check.due("16 dry once more", NONE, x, s -> s.cellOf(0, 6));
        x.pass(1, 0);
        Check.due("16 older water of cell 1", 3, x, s -> s.cellOf(0, 6));
        Check.due("16 cell 1 has led all on", NONE, x, s -> s.cellOf(1, 6));
        x.pass(1, 4);
        x.pass(1, 0);
        // Cell 0: 5 of cell 1 of year 3, 4 of its own and 4 of cell 1 of year 5.
        x.bottle(0, 4);
        Check.due("16 a part of the front is left", 3, x, s -> s.cellOf(0, 6));
        x.bottle(0, 1);
        Check.due("16 the next one", 5, x, s -> s.cellOf(0, 6));
        Springward y = new Springward();
        y.rock(0, 40);
        y.lead(1, NONE);
        y.well(0, 10000);
        y.rock(1, 2);
        y.pass(1, 4);
        y.bottle(0, 4);
        y.lead(1, 0);
        y.pass(1, 3);
        y.bottle(0, 2);
        y.pass(1, 0);
        // Cell 0: 3 of its own of year 1, and then 2 of cell 1 of year 0.
        Check.due("16 units", 3 + 2, y, s -> s.cellOf(0, 0));
        Check.due("16 the front, not the oldest", 1, y, s -> s.cellOf(0, 6));
    }

    private static void promise16Refused() {
        Doc.says("Throws `IndexOutOfBoundsException` if there is no such cell");
        for (int q : new int[] {0, 6, 7, -1}) {
            int what = q;
            Check.refusedOf(NO_CELLS, "16 cell, what " + q, Check.INDEX, (s, cell) -> s.cellOf(cell, what));
        }
        Doc.says("Throws `IllegalArgumentException` if what is out of range");
        Check.refusedOf(Check.outside(0, 6), "16 what", Check.ARGUMENT, (s, what) -> s.cellOf(0, what));
        Check.refusedOf(Check.outside(0, 6), "16 what of 9", Check.ARGUMENT, (s, what) -> s.cellOf(9, what));
    }

    private static void promise17() {
        Doc.under("Promise 17: flow");
        Doc.says("`int flow(int what)");
        Doc.says("- `what`: 0 how many units, 1 their nitrate, together, 2 the compounds in it, 3 the year in"
                + " which the oldest of it fell, NONE without any");
        Springward x = new Springward();
        x.rock(0, 6);
        flows("17 ahead of any year", x, 0, 0, 0, NONE);
        x.spill(0, 0);
        x.spill(0, 7);
        x.rock(0, 1);
        x.pass(1, 3);
        flows("17 in the year of the rain", x, 0, 0, 0, NONE);
        x.pass(1, 0);
        flows("17 behind it", x, 3, 3, 129, 0);
        x.pass(1, 0);
        flows("17 without any", x, 0, 0, 0, NONE);
        Springward most = new Springward();
        for (int c = 0; c < 10; c++) {
            most.lead(c, NONE);
            most.land(c, FIELD);
            for (int k = 0; k < 8; k++) {
                most.rock(c, 40);
                most.spill(c, k);
            }
            most.rock(c, 1);
        }
        most.pass(1, 1000);
        most.pass(1, 1000);
        flows("17 as much as may fall in a year", most, 10000, 100000, 255, 0);
    }

    private static void flows(String which, Springward x, int... due) {
        for (int q = 0; q < 4; q++) {
            int what = q;
            Check.due(which + ", what " + q, due[q], x, s -> s.flow(what));
        }
    }

    private static void promise17Oldest() {
        Doc.says("- `what`: 0 how many units, 1 their nitrate, together, 2 the compounds in it, 3 the year in"
                + " which the oldest of it fell");
        // To the spring come 4 units of cell 0 of the year 1, and then one of cell 1 of the year 0.
        Springward x = new Springward();
        for (int c = 1; c < 10; c++) {
            x.rock(c, 40);
        }
        x.rock(0, 1);
        x.lead(1, NONE);
        x.land(1, GRASS);
        x.spill(1, 5);
        x.pass(2, 4);
        flows("17 cell 0 alone", x, 4, 4, 0, 0);
        x.rock(1, 8);
        x.pass(1, 0);
        flows("17 old behind young", x, 4 + 1, 4 + 3, 32, 0);
        x.rock(1, 40);
        x.pass(1, 0);
        flows("17 none any more", x, 0, 0, 0, NONE);
    }

    private static void promise17Refused() {
        Doc.says("Throws `IllegalArgumentException` if what is out of range");
        Check.refusedOf(Check.outside(0, 3), "17 what", Check.ARGUMENT, (s, what) -> s.flow(what));
    }

    private static void promise18() {
        Doc.under("Promise 18: wellOf");
        Doc.says("`int wellOf(int well, int what)");
        Doc.says("- `well`: its number");
        Doc.says("- `what`: 0 its cell, 1 its permit, 2 what it took this year, 3 what it may take still, 0 at"
                + " least");
        Springward x = new Springward();
        for (int w = 0; w < 6; w++) {
            x.well(9 - w, 2 * w);
        }
        x.pass(1, 30);
        for (int w = 0; w < 6; w++) {
            asWell("18 ahead", x, w, 9 - w, 2 * w, 0, 2 * w);
        }
        for (int w = 1; w < 6; w++) {
            x.bottle(w, w);
            x.bottle(w, 1);
        }
        asWell("18 nothing by a permit of nothing", x, 0, 9, 0, 0, 0);
        for (int w = 1; w < 6; w++) {
            asWell("18 more than the half", x, w, 9 - w, 2 * w, w + 1, w - 1);
        }
        x.drought(9, 31, 0);
        for (int w = 1; w < 6; w++) {
            asWell("18 the half, 0 at least", x, w, 9 - w, 2 * w, w + 1, 0);
        }
        x.drought(9, 31, 31);
        for (int w = 1; w < 6; w++) {
            asWell("18 nothing, 0 at least", x, w, 9 - w, 2 * w, w + 1, 0);
        }
        x.pass(1, 0);
        asWell("18 nothing in the next year", x, 5, 4, 10, 0, 0);
        x.drought(9, 31, 0);
        asWell("18 the half in the next year", x, 5, 4, 10, 0, 5);
        x.drought(9, 0, 0);
        asWell("18 all in the next year", x, 5, 4, 10, 0, 10);
        Springward most = quiet();
        most.pass(1, 1000);
        asWell("18 the highest permit, whatever the cell has", most, 0, 0, 10000, 0, 10000);
        most.bottle(0, 1000);
        asWell("18 the largest lot", most, 0, 0, 10000, 1000, 9000);
    }

    private static void asWell(String which, Springward x, int well, int... due) {
        for (int q = 0; q < 4; q++) {
            int what = q;
            Check.due(which + ", well " + well + ", what " + q, due[q], x, s -> s.wellOf(well, what));
        }
    }

    private static void promise18Refused() {
        Doc.says("Throws `IndexOutOfBoundsException` if there is no such well");
        for (int q : new int[] {0, 3, 4, -1}) {
            int what = q;
            Check.refusedOf(NO_WELLS, "18 well, what " + q, Check.INDEX, (s, well) -> s.wellOf(well, what));
            Check.refusedOf(new int[] {3, 5}, NOT_FULL, "18 not yet, what " + q, Check.INDEX,
                    (s, well) -> s.wellOf(well, what));
            Check.refusedOf(new int[] {0, 1}, NONE_YET, "18 none at all, what " + q, Check.INDEX,
                    (s, well) -> s.wellOf(well, what));
        }
        Doc.says("Throws `IllegalArgumentException` if what is out of range");
        for (int w = 0; w < 3; w++) {
            int well = w;
            Check.refusedOf(Check.outside(0, 3), Scene.USED, "18 what, well " + w, Check.ARGUMENT,
                    (s, what) -> s.wellOf(well, what));
        }
    }

    private static void promise19() {
        Doc.under("Promise 19: lotOf");
        Doc.says("`int lotOf(int lot, int what)");
        Doc.says("- `lot`: its number");
        Doc.says("- `what`: 0 its well, 1 its units, 2 their nitrate, together, 3 the year in which it was"
                + " bottled, 4 the compounds in it, 5 the least age of a unit, 6 the greatest one, 7 the set of"
                + " its treatments, 8 its label, NONE, 9 whether that is true, 1 or 0, NONE without one, 10"
                + " whether it is recalled, 1 or 0");
        Springward x = quiet();
        x.land(0, FIELD);
        for (int w = 1; w < 6; w++) {
            x.well(0, 10000);
        }
        for (int k = 0; k < 8; k++) {
            x.spill(0, k);
        }
        x.pass(1, 1000);
        x.pass(1, 1000);
        // In the year 1, 25 units flowed away.
        x.bottle(5, 976);
        asLot("19 compounds of one unit of two rains", x, 0, 5, 976, 9760, 2, 255, 1, 2, 0, NONE, NONE, 0);
        x.bottle(3, 999);
        asLot("19 of the second rain alone", x, 1, 3, 999, 9990, 2, 0, 1, 1, 0, NONE, NONE, 0);
        for (int l = 2; l < 40; l++) {
            x.pass(1, 2);
            x.bottle(0, 1);
            asLot("19 lot " + l, x, l, 0, 1, 10, l + 1, 0, (l + 1) / 2, (l + 1) / 2, 0, NONE, NONE, 0);
        }
        Springward most = new Springward();
        most.land(0, FIELD);
        most.well(0, 10000);
        most.pass(1, 1000);
        most.bottle(0, 1000);
        asLot("19 the largest lot", most, 0, 0, 1000, 10000, 1, 0, 1, 1, 0, NONE, NONE, 0);
    }

    private static void asLot(String which, Springward x, int lot, int... due) {
        for (int q = 0; q < 11; q++) {
            int what = q;
            Check.due(which + ", what " + q, due[q], x, s -> s.lotOf(lot, what));
        }
    }

    private static void promise19Ages() {
        Doc.says("- `what`: 0 its well, 1 its units, 2 their nitrate, together, 3 the year in which it was"
                + " bottled, 4 the compounds in it, 5 the least age of a unit, 6 the greatest one");
        // Behind 3 units of cell 0 of year 1 there are 4 of cell 1 of year 0, and 2 of cell 0 of year 3.
        Springward x = new Springward();
        x.rock(0, 40);
        x.rock(1, 40);
        x.lead(2, NONE);
        x.lead(1, NONE);
        x.well(0, 10000);
        x.pass(1, 4);
        x.bottle(0, 4);
        x.pass(1, 3);
        x.rock(1, 1);
        x.lead(1, 0);
        x.pass(1, 0);
        x.pass(1, 2);
        Check.due("19 units", 3 + 4 + 3 + 2, x, s -> s.cellOf(0, 0));
        x.bottle(0, 5);
        Check.due("19 the greatest is not in front", 4, x, s -> s.lotOf(1, 6));
        Check.due("19 the least is in front", 3, x, s -> s.lotOf(1, 5));
        x.bottle(0, 7);
        Check.due("19 the least is at the end", 1, x, s -> s.lotOf(2, 5));
        Check.due("19 the greatest is in front", 4, x, s -> s.lotOf(2, 6));
        Springward old = quiet();
        old.pass(1, 30);
        for (int i = 0; i < 14; i++) {
            old.pass(20, 0);
        }
        old.pass(18, 0);
        old.pass(1, 9);
        old.bottle(0, 31);
        Check.due("19 the least of all", 1, old, s -> s.lotOf(0, 5));
        Check.due("19 the greatest of all", 300, old, s -> s.lotOf(0, 6));
    }

    private static void promise19Label() {
        Doc.says("- `what`: 0 its well, 1 its units, 2 their nitrate");
        for (int treatments = 0; treatments < 64; treatments += 21) {
            int set = treatments;
            for (int water = NONE; water <= TABLE; water++) {
                int label = water;
                Springward x = Waters.of(FOREST, 10);
                for (int t = 0; t < 6; t++) {
                    if ((set >> t & 1) == 1) {
                        x.treat(0, t);
                    }
                }
                boolean isTrue = label == TABLE || set == 0;
                if (label != NONE) {
                    Check.due("19 label " + set + " " + label, isTrue, x, s -> s.label(0, label));
                }
                int truth = label == NONE ? NONE : isTrue ? 1 : 0;
                asLot("19 set " + set + ", label " + label, x, 0, 0, 10, 10, 10, 0, 10, 10, set, label, truth, 0);
                x.forbid(4);
                x.forbid(2);
                x.forbid(0);
                boolean recalled = set != 0 && set != 42 && (label == MINERAL || label == SPRING);
                asLot("19 forbidden, set " + set + ", label " + label, x, 0, 0, 10, 10, 10, 0, 10, 10, set, label,
                        truth, recalled ? 1 : 0);
            }
        }
    }

    private static void promise19Refused() {
        Doc.says("Throws `IndexOutOfBoundsException` if there is no such lot");
        for (int q : new int[] {0, 10, 11, -1}) {
            int what = q;
            noSuchLot("19 lot, what " + q, (s, lot) -> s.lotOf(lot, what));
        }
        Doc.says("Throws `IllegalArgumentException` if what is out of range");
        for (int l = 0; l < 5; l++) {
            int lot = l;
            Check.refusedOf(Check.outside(0, 10), Scene.USED, "19 what, lot " + l, Check.ARGUMENT,
                    (s, what) -> s.lotOf(lot, what));
        }
    }

    private static void promise20() {
        Doc.under("Promise 20: age");
        Doc.says("`float age(int lot)");
        Doc.says("- `lot`: its number");
        Doc.says("Returns the ages of all its units, together, as a float, divided by how many there are, as a"
                + " float.");
        Springward x = quiet();
        x.pass(1, 30);
        for (int i = 0; i < 14; i++) {
            x.pass(20, 0);
        }
        x.pass(18, 0);
        x.pass(1, 9);
        x.bottle(0, 1);
        Check.due("20 the greatest", 300f, x, s -> s.age(0));
        x.bottle(0, 36);
        Check.due("20 29 old ones and 7 young ones", (29 * 300 + 7) / 36f, x, s -> s.age(1));
        x.bottle(0, 2);
        Check.due("20 the least", 1f, x, s -> s.age(2));
        for (int young = 1; young < 39; young++) {
            Springward y = quiet();
            y.pass(1, 39 - young);
            y.pass(1, young);
            y.bottle(0, 39);
            int ages = 2 * (39 - young) + young;
            Check.due("20 " + young + " young ones", (float) ages / (float) 39, y, s -> s.age(0));
        }
        Springward most = new Springward();
        most.well(0, 10000);
        most.pass(2, 1000);
        // A fifth of the first rain flowed, and as much came, of that year too.
        most.bottle(0, 1000);
        Check.due("20 of many units", 2f, most, s -> s.age(0));
        Doc.says("Throws `IndexOutOfBoundsException` if there is no such lot");
        noSuchLot("20 lot", (s, lot) -> s.age(lot));
    }

    private static void promise21() {
        Doc.under("Promise 21: best");
        Doc.says("`int best(int lot)");
        Doc.says("- `lot`: its number");
        Doc.says("Returns MINERAL to TABLE.");
        Check.due("21 the lowest", MINERAL, Waters.of(FOREST, 10), s -> s.best(0));
        Check.due("21 treated with 0", MINERAL, Waters.of(FOREST, 10, 0), s -> s.best(0));
        Check.due("21 age 9", SPRING, Waters.of(FOREST, 9), s -> s.best(0));
        Check.due("21 treated with 1", SPRING, Waters.of(FOREST, 10, 1), s -> s.best(0));
        Check.due("21 compounds", SPRING, Waters.spilled(), s -> s.best(0));
        Check.due("21 nitrate above 5", SPRING, Waters.mixed(5 * 39 + 1), s -> s.best(0));
        Check.due("21 nitrate up to 5", MINERAL, Waters.mixed(5 * 39), s -> s.best(0));
        Check.due("21 nitrate up to 8", SPRING, Waters.mixed(8 * 39), s -> s.best(0));
        Check.due("21 nitrate above 8", TABLE, Waters.mixed(8 * 39 + 1), s -> s.best(0));
        Check.due("21 treated with 5", TABLE, Waters.of(FOREST, 10, 5), s -> s.best(0));
        Springward young = Waters.of(FOREST, 9);
        young.pass(20, 0);
        Check.due("21 it ages no more", SPRING, young, s -> s.best(0));
        Springward x = Waters.of(FOREST, 10, 0, 1);
        Check.due("21 ahead", SPRING, x, s -> s.best(0));
        x.label(0, MINERAL);
        Check.due("21 whatever its label", SPRING, x, s -> s.best(0));
        x.forbid(1);
        Check.due("21 as it is now", TABLE, x, s -> s.best(0));
        Doc.says("Throws `IndexOutOfBoundsException` if there is no such lot");
        noSuchLot("21 lot", (s, lot) -> s.best(lot));
    }

    /** Lot 0: in the year 300, a unit each of year 0 and 299, of cell 9, which leads to cell 0. */
    private static Springward firstAndLast() {
        Springward x = new Springward();
        x.rock(9, 40);
        x.well(9, 10000);
        x.spill(9, 7);
        x.pass(1, 1);
        for (int i = 0; i < 14; i++) {
            x.pass(20, 0);
        }
        x.pass(18, 0);
        x.spill(9, 0);
        x.pass(1, 1);
        x.bottle(0, 2);
        return x;
    }

    private interface Asked {
        int on(Springward x, int lot, int cell, int year);
    }

    private static void fell(String promise, Asked asked) {
        Springward x = firstAndLast();
        Check.due(promise + " of the first year", 1, x, s -> asked.on(s, 0, 9, 0));
        Check.due(promise + " of the last year", 1, x, s -> asked.on(s, 0, 9, 299));
        for (int year : new int[] {-1, -2, 1, 150, 298, 300, 301, 256, 65536, -299, -300, 1000, 9000,
            Integer.MIN_VALUE, Integer.MIN_VALUE + 299, Integer.MAX_VALUE}) {
            Check.due(promise + " of the year " + year, 0, x, s -> asked.on(s, 0, 9, year));
        }
        for (int c = 0; c < 9; c++) {
            int cell = c;
            Check.due(promise + " on the cell " + c, 0, x, s -> asked.on(s, 0, cell, 0));
        }
        eachUnit(promise + " first lot", 20, 0, asked);
        eachUnit(promise + " last lot", 1, 39, asked);
        cutPortions(promise, asked);
    }

    private static void eachUnit(String what, int units, int lot, Asked asked) {
        Springward x = Scene.FULL.make();
        int found = 0;
        for (int cell = 0; cell < 10; cell++) {
            for (int year = 0; year < 20; year++) {
                found += asked.on(x, lot, cell, year);
            }
        }
        Check.equal(what + ", all units", "" + found, "" + units);
    }

    /** The rain of one year on one cell, cut by a flow and by lots. */
    private static void cutPortions(String promise, Asked asked) {
        Springward x = new Springward();
        x.rock(0, 40);
        x.rock(1, 3);
        x.lead(2, NONE);
        x.well(0, 10000);
        x.well(1, 10000);
        x.pass(1, 10);
        x.bottle(1, 1);
        x.pass(1, 0);
        // Cell 1 had 9, and 3 of them are in cell 0 now, behind 10 of its own.
        x.bottle(0, 11);
        x.pass(1, 0);
        // It had 6 left, and led 2 on.
        x.bottle(0, 4);
        x.bottle(1, 4);
        int[] ofCell0 = {0, 10, 0, 0};
        int[] ofCell1 = {1, 1, 4, 4};
        for (int l = 0; l < 4; l++) {
            int lot = l;
            Check.due(promise + " cut, cell 0, lot " + l, ofCell0[l], x, s -> asked.on(s, lot, 0, 0));
            Check.due(promise + " cut, cell 1, lot " + l, ofCell1[l], x, s -> asked.on(s, lot, 1, 0));
        }
    }

    private static void fromRefused(Asked asked, String promise) {
        Doc.says("Throws `IndexOutOfBoundsException` if there is no such lot or cell");
        noSuchLot(promise + " lot", (s, lot) -> asked.on(s, lot, 0, 0));
        noSuchLot(promise + " lot and cell", (s, lot) -> asked.on(s, lot, 10, 0));
        noSuchLot(promise + " lot, whatever year", (s, lot) -> asked.on(s, lot, 0, -1));
        for (int l = 0; l < 5; l++) {
            int lot = l;
            Check.refusedOf(NO_CELLS, Scene.USED, promise + " cell, lot " + l, Check.INDEX,
                    (s, cell) -> asked.on(s, lot, cell, 0));
            Check.refusedOf(NO_CELLS, Scene.USED, promise + " cell, whatever year, lot " + l, Check.INDEX,
                    (s, cell) -> asked.on(s, lot, cell, Integer.MIN_VALUE));
        }
    }

    private static void promise22() {
        Doc.under("Promise 22: from");
        Doc.says("`int from(int lot, int cell, int year)");
        Doc.says("- `lot`: its number");
        Doc.says("- `cell`: 0 to 9");
        Doc.says("- `year`: whatever year");
        fell("22", Springward::from);
        fromRefused(Springward::from, "22");
    }

    private static void promise23() {
        Doc.under("Promise 23: fromAnew");
        Doc.says("`int fromAnew(int lot, int cell, int year)");
        Doc.says("- `lot`: its number");
        Doc.says("- `cell`: 0 to 9");
        Doc.says("- `year`: whatever year");
        fell("23", Springward::fromAnew);
        fromRefused(Springward::fromAnew, "23");
        Springward x = Scene.FULL.make();
        for (int l = 0; l < 6; l++) {
            int lot = l;
            for (int i = 0; i < 30; i++) {
                int cell = i / 3;
                int year = i % 3 * 6;
                Check.due("23 the same, " + l + " " + i, x.from(lot, cell, year), x,
                        s -> s.fromAnew(lot, cell, year));
            }
        }
    }

    private static void promise24() {
        Doc.under("Promise 24: whence");
        Doc.says("- `lot`: its number");
        Doc.says("- `compound`: 0 to 7");
        Doc.says("Returns 1000 times the cell, and the year, together;");
        Springward x = firstAndLast();
        Check.due("24 the first year", 9000, x, s -> s.whence(0, 7));
        Check.due("24 the last cell and year", 9299, x, s -> s.whence(0, 0));
        Springward least = quiet();
        for (int k = 0; k < 8; k++) {
            least.spill(0, k);
        }
        least.pass(1, 1);
        least.bottle(0, 1);
        for (int k = 0; k < 8; k++) {
            int compound = k;
            Check.due("24 the first cell and year, compound " + k, 0, least, s -> s.whence(0, compound));
        }
        Springward recalled = Waters.spilled();
        recalled.treat(0, 1);
        recalled.label(0, SPRING);
        recalled.forbid(1);
        Check.due("24 a recalled lot", 1, recalled, s -> s.lotOf(0, 10));
        Check.due("24 of a recalled lot", 0, recalled, s -> s.whence(0, 3));
        Check.due("24 its units", 10, recalled, s -> s.from(0, 0, 0));
        Check.due("24 its units, followed", 10, recalled, s -> s.fromAnew(0, 0, 0));
        Doc.says("NONE without one.");
        for (int k = 1; k < 7; k++) {
            int compound = k;
            Check.due("24 none of compound " + k, NONE, x, s -> s.whence(0, compound));
        }
        Springward clean = Waters.of(FIELD, 2);
        for (int k = 0; k < 8; k++) {
            int compound = k;
            Check.due("24 none in clean water, compound " + k, NONE, clean, s -> s.whence(0, compound));
        }
    }

    private static void promise24Earliest() {
        Doc.says("`int whence(int lot, int compound)");
        // Cells 1 to 4 lead to cell 0; with the compound 2, of year 1: 3 and 4, of year 2: 1, of year 3: 0.
        Springward x = new Springward();
        x.rock(0, 40);
        for (int c = 1; c < 5; c++) {
            x.lead(c, 0);
            x.rock(c, 40);
        }
        x.lead(5, NONE);
        x.well(0, 10000);
        int[][] spills = {{}, {4, 3}, {1}, {0}};
        for (int[] cells : spills) {
            for (int cell : cells) {
                x.spill(cell, 2);
            }
            x.pass(1, 2);
        }
        for (int c = 1; c < 5; c++) {
            x.rock(c, 1);
        }
        x.pass(1, 0);
        // Cell 0: 8 of its own, and 8 each of the cells 1 to 4, two of each year one behind the other.
        int[] units = {6, 2, 4, 2, 2 + 8, 8, 1, 3};
        int[] due = {NONE, 3, NONE, 1002, NONE, 3001, NONE, 4001};
        for (int l = 0; l < 8; l++) {
            int lot = l;
            x.bottle(0, units[l]);
            Check.due("24 lot " + l, due[l], x, s -> s.whence(lot, 2));
        }
        Check.due("24 no other compound", NONE, x, s -> s.whence(3, 3));
        together(3000, 1, 3, 4, 7);
        together(3000, 7, 4, 3, 1);
        together(3000, 4, 3);
        together(4000, 4, 1, 7);
        together(4000, 7, 1, 4);
        together(7000, 1, 7);
        together(7000, 7, 2, 1);
        together(1001, 2, 1);
        together(NONE, 2, 8);
    }

    /**
     * All in one lot: the cells' water in that order, with the compound 2 that of the cells 3, 4 and
     * 7 of the year 0, and that of cell 1 of the year 1.
     */
    private static void together(int due, int... cells) {
        Springward x = new Springward();
        x.rock(0, 40);
        for (int c = 1; c < 10; c++) {
            x.lead(c, 0);
            x.rock(c, 40);
        }
        x.well(0, 10000);
        x.spill(3, 2);
        x.spill(4, 2);
        x.spill(7, 2);
        x.pass(1, 2);
        x.spill(1, 2);
        x.pass(1, 2);
        String order = "";
        for (int cell : cells) {
            x.rock(cell, 1);
            x.pass(1, 0);
            order += " " + cell;
        }
        x.bottle(0, 4 + 4 * cells.length);
        Check.due("24 all of the cells" + order, due, x, s -> s.whence(0, 2));
    }

    private static void promise24Refused() {
        Doc.says("Throws `IndexOutOfBoundsException` if there is no such lot or compound");
        noSuchLot("24 lot", (s, lot) -> s.whence(lot, 0));
        noSuchLot("24 lot and compound", (s, lot) -> s.whence(lot, 8));
        for (int l = 0; l < 5; l++) {
            int lot = l;
            Check.refusedOf(Check.outside(0, 7), Scene.USED, "24 compound, lot " + l, Check.INDEX,
                    (s, compound) -> s.whence(lot, compound));
        }
    }

    private static void promise25() {
        Doc.under("Promise 25: sum");
        Doc.says("`long sum(int what)");
        Doc.says("- `what`: 0 all units that fell, 1 all that are in the cells, 2 all that came to the spring, 3"
                + " all that were bottled, 4 what contracts cost, 5 what the village got, in cents, 6 how many"
                + " labels are false");
        Springward x = quiet();
        sums("25 at first", x, 0, 0, 0, 0, 0, 0, 0);
        x.rock(9, 1);
        x.lead(9, NONE);
        x.land(9, FIELD);
        x.contract(9, 2, 3);
        x.pass(1, 4);
        sums("25 a year", x, 40, 40, 0, 0, 3, 0, 0);
        x.pass(1, 0);
        sums("25 two years", x, 40, 36, 4, 0, 6, 0, 0);
        x.bottle(0, 3);
        sums("25 a lot", x, 40, 33, 4, 3, 6, 3, 0);
        x.share(9);
        x.bottle(0, 1);
        sums("25 another one", x, 40, 32, 4, 4, 6, 12, 0);
        x.label(0, MINERAL);
        sums("25 a false label", x, 40, 32, 4, 4, 6, 12, 1);
        x.treat(1, 0);
        x.label(1, SPRING);
        sums("25 a true label", x, 40, 32, 4, 4, 6, 12, 1);
        Check.due("25 one is recalled", 1, x, s -> s.forbid(0));
        sums("25 recalled", x, 40, 32, 4, 4, 6, 12, 1);
        x.pass(1, 0);
        sums("25 no contract any more", x, 40, 32, 4, 4, 6, 12, 1);
        Doc.says("Throws `IllegalArgumentException` if what is out of range");
        Check.refusedOf(Check.outside(0, 6), "25 what", Check.ARGUMENT, (s, what) -> s.sum(what));
    }

    private static void sums(String which, Springward x, long... due) {
        for (int q = 0; q < 7; q++) {
            int what = q;
            Check.due(which + ", what " + q, due[q], x, s -> s.sum(what));
        }
    }

    private static void promise25Most() {
        Doc.says("- `what`: 0 all units that fell, 1 all that are in the cells");
        Springward x = new Springward();
        x.well(0, 10000);
        x.share(100);
        x.pass(20, 1000);
        for (int l = 0; l < 40; l++) {
            x.pass(l % 8 == 7 ? 1 : 2, 1000);
            x.bottle(0, 1000);
            x.treat(l, 5);
            x.label(l, l % 2);
        }
        Check.due("25 the most that is bottled", 40000L, x, s -> s.sum(3));
        Check.due("25 the most for the village", 4000000L, x, s -> s.sum(5));
        Check.due("25 the most false labels", 40L, x, s -> s.sum(6));
        while (x.year() < 300) {
            x.pass(Math.min(20, 300 - x.year()), 1000);
        }
        Check.due("25 the most that falls", 3000000L, x, s -> s.sum(0));
        Check.due("25 all of it is somewhere", 3000000L - 40000, x, s -> s.sum(1) + s.sum(2));
        Springward paid = new Springward();
        for (int c = 0; c < 10; c++) {
            paid.land(c, FIELD);
        }
        for (int i = 0; i < 10; i++) {
            for (int c = 0; c < 10; c++) {
                paid.contract(c, 30, 1000);
            }
            paid.pass(20, 0);
            paid.pass(10, 0);
        }
        Check.due("25 the most for contracts", 3000000L, paid, s -> s.sum(4));
    }

    /** What is asked changes nothing either. */
    private static void askingChangesNothing() {
        for (Scene scene : Scene.values()) {
            Check.equal("asked, " + scene, Story.of(0, asked(scene)), Story.of(0, scene.make()));
            Check.equal("inquired, " + scene, Story.of(2, inquired(scene)), Story.of(2, scene.make()));
        }
    }

    private static Springward asked(Scene scene) {
        Springward x = scene.make();
        Story.of(0, x);
        return x;
    }

    private static Springward inquired(Scene scene) {
        Springward x = scene.make();
        for (int cell = 0; cell < 10; cell++) {
            int atCell = cell;
            Check.answer(x, s -> s.fromAnew(0, atCell, 5));
            Check.answer(x, s -> s.fromAnew(4, atCell, 9));
            Check.answer(x, s -> s.whence(2, 5));
        }
        return x;
    }
}
