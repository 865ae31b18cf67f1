/** Promises 8 to 14, sentence by sentence: what is just in range, just out of it, and refused. */
public final class EdgesOfWellsTest {
    private static final int FOREST = Springward.FOREST;
    private static final int FIELD = Springward.FIELD;
    private static final int MINERAL = Springward.MINERAL;
    private static final int SPRING = Springward.SPRING;
    private static final int TABLE = Springward.TABLE;
    private static final int NONE = Springward.NONE;

    private static final int[] NO_CELLS = Check.outside(0, 9);
    private static final int[] NO_TREATMENTS = Check.outside(0, 5);
    private static final int[] NO_WATER = Check.outside(MINERAL, TABLE);
    private static final int[] NO_WELLS = Check.outside(0, 5);
    private static final int[] NO_LOTS = Check.outside(0, 39);
    // Here there are three wells, or five lots.
    private static final Scene[] NOT_FULL = {Scene.BUSY, Scene.PARCHED, Scene.HALVED, Scene.LATE, Scene.LAST};
    private static final Scene[] NONE_YET = {Scene.NEW};

    private EdgesOfWellsTest() {
    }

    public static void main(String[] args) {
        promise8();
        promise8Refused();
        promise9();
        promise9Refused();
        promise10();
        promise11();
        promise11Refused();
        promise11Permit();
        promise11Water();
        promise11Forty();
        promise12();
        promise12Refused();
        promise13();
        promise13Refused();
        promise14();
        promise14Refused();
        Doc.end();
    }

    private static Springward quiet() {
        Springward x = new Springward();
        x.rock(0, 40);
        x.lead(1, NONE);
        return x;
    }

    private static void promise8() {
        Doc.under("Promise 8: well");
        Doc.says("`int well(int cell, int permit)");
        Doc.says("- `cell`: 0 to 9");
        for (int c = 0; c < 10; c++) {
            int cell = c;
            Springward x = new Springward();
            Check.due("8 in cell " + c, 0, x, s -> s.well(cell, 5));
            Check.due("8 told, in cell " + c, cell, x, s -> s.wellOf(0, 0));
            x.pass(1, 10);
            x.bottle(0, 4);
            Check.due("8 its water, of cell " + c, 4, x, s -> s.from(0, cell, 0));
        }
        Doc.says("- `permit`: 0 to 10000: units a year");
        Springward x = quiet();
        Check.due("8 the least permit", 0, x, s -> s.well(0, 0));
        Check.due("8 the highest permit", 1, x, s -> s.well(0, 10000));
        Check.due("8 permit of 1", 2, x, s -> s.well(0, 1));
        x.pass(1, 39);
        Check.due("8 nothing by the least", Check.STATE, x, s -> s.bottle(0, 1));
        Check.due("8 one by 1", 0, x, s -> s.bottle(2, 1));
        Check.due("8 not two by 1", Check.STATE, x, s -> s.bottle(2, 1));
        Check.due("8 all by the highest", 1, x, s -> s.bottle(1, 38));
        Check.due("8 the highest, told", 10000, x, s -> s.wellOf(1, 1));
        Doc.says("Returns its number.");
        Springward y = new Springward();
        for (int w = 0; w < 6; w++) {
            int well = w;
            Check.due("8 number, in the same cell " + w, well, y, s -> s.well(3, 7));
        }
    }

    private static void promise8Refused() {
        Doc.says("Throws `IndexOutOfBoundsException` if there is no such cell");
        Check.refusedOf(NO_CELLS, "8 well", Check.INDEX, (s, cell) -> s.well(cell, 1));
        Check.refusedOf(NO_CELLS, "8 well with permit -1", Check.INDEX, (s, cell) -> s.well(cell, -1));
        Check.refusedOf(NO_CELLS, "8 well with permit 10001", Check.INDEX, (s, cell) -> s.well(cell, 10001));
        Doc.says("Throws `IllegalArgumentException` if permit is out of range");
        int[] noPermits = Check.outside(0, 10000);
        Check.refusedOf(noPermits, "8 permit", Check.ARGUMENT, (s, permit) -> s.well(0, permit));
        Check.refusedOf(noPermits, "8 permit in cell 9", Check.ARGUMENT, (s, permit) -> s.well(9, permit));
        Doc.says("Throws `IllegalStateException` if there are 6");
        Check.refused("8 six", Check.STATE, Scene.FULL, s -> s.well(0, 0));
        Check.refused("8 six, another one", Check.STATE, Scene.FULL, s -> s.well(9, 10000));
        Springward x = Scene.BUSY.make();
        for (int w = 3; w < 6; w++) {
            int well = w;
            Check.due("8 well " + w, well, x, s -> s.well(0, 1));
        }
        Check.due("8 no seventh", Check.STATE, x, s -> s.well(0, 1));
        Check.due("8 well 5 is as it was", 1, x, s -> s.wellOf(5, 1));
    }

    private static void promise9() {
        Doc.under("Promise 9: drought");
        Doc.says("`void drought(int cell, int first, int second)");
        Doc.says("- `cell`: 0 to 9");
        for (int c = 0; c < 10; c++) {
            int cell = c;
            Springward x = new Springward();
            x.well(5, 9);
            // Cell c has 4 units, all others more or less.
            x.pass(1, 4);
            x.drought(cell, 5, 0);
            Check.due("9 dry cell " + c, 4, x, s -> s.wellOf(0, 3));
            x.drought(cell, 4, 4);
            Check.due("9 cell is not dry " + c, 9, x, s -> s.wellOf(0, 3));
            x.well(cell, 2);
            x.bottle(1, 1);
            Check.due("9 that cell alone, dry " + c, 0, x, s -> s.wellOf(0, 3));
            x.drought(cell == 9 ? 0 : 9, 4, 4);
            Check.due("9 another cell instead of " + c, 9, x, s -> s.wellOf(0, 3));
        }
        Doc.says("- `first`: 0 to 100000: the first limit");
        Doc.says("- `second`: 0 to first");
        int[][] limits = {{0, 0, 81}, {7, 0, 81}, {7, 7, 81}, {8, 0, 40}, {8, 7, 40}, {8, 8, 0},
            {100000, 0, 40}, {100000, 7, 40}, {100000, 8, 0}, {100000, 100000, 0}, {1, 1, 81}};
        Springward x = new Springward();
        x.well(0, 81);
        x.pass(1, 7);
        for (int[] row : limits) {
            String which = row[0] + " " + row[1];
            Check.due("9 limits " + which, "nothing", x, s -> dried(s, 2, row[0], row[1]));
            Check.due("9 what may be taken, limits " + which, row[2], x, s -> s.wellOf(0, 3));
        }
    }

    private static Object dried(Springward x, int cell, int first, int second) {
        x.drought(cell, first, second);
        return "nothing";
    }

    private static void promise9Refused() {
        Doc.says("Throws `IndexOutOfBoundsException` if there is no such cell");
        Check.refusedOf(NO_CELLS, "9 drought", Check.INDEX, (s, cell) -> dried(s, cell, 9000, 8000));
        Check.refusedOf(NO_CELLS, "9 drought, first", Check.INDEX, (s, cell) -> dried(s, cell, 100001, 1));
        Check.refusedOf(NO_CELLS, "9 drought, second", Check.INDEX, (s, cell) -> dried(s, cell, 5, 6));
        Check.refusedOf(NO_CELLS, "9 drought, both", Check.INDEX, (s, cell) -> dried(s, cell, -1, -1));
        Doc.says("Throws `IllegalArgumentException` if a limit is out of range");
        int[] noLimits = Check.outside(0, 100000);
        // In PARCHED, another cell than that of its drought would be seen.
        for (int c : new int[] {3, 8}) {
            int cell = c;
            Check.refusedOf(noLimits, "9 first, cell " + c, Check.ARGUMENT, (s, first) -> dried(s, cell, first, 0));
            Check.refusedOf(noLimits, "9 both, cell " + c, Check.ARGUMENT, (s, both) -> dried(s, cell, both, both));
            Check.refusedOf(Check.outside(0, 7000), "9 second, cell " + c, Check.ARGUMENT,
                    (s, second) -> dried(s, cell, 7000, second));
            Check.refusedAnywhere("9 second above no first, cell " + c, Check.ARGUMENT, s -> dried(s, cell, 0, 1));
            Check.refusedAnywhere("9 second above, cell " + c, Check.ARGUMENT,
                    s -> dried(s, cell, 100000, 100001));
        }
    }

    private static void promise10() {
        Doc.under("Promise 10: share");
        Doc.says("`int share(int cents)");
        Doc.says("- `cents`: 0 to 100, for each unit");
        Doc.says("Returns what it was.");
        Springward x = quiet();
        x.well(0, 100);
        x.pass(1, 39);
        int[] shares = {0, 1, 50, 100, 100, 0};
        int was = 1;
        long got = 0;
        for (int cents : shares) {
            int before = was;
            Check.due("10 what it was ahead of " + cents, before, x, s -> s.share(cents));
            x.bottle(0, 3);
            got += 3 * cents;
            Check.due("10 got by " + cents, got, x, s -> s.sum(5));
            was = cents;
        }
        Doc.says("Throws `IllegalArgumentException` if cents are out of range");
        Check.refusedOf(Check.outside(0, 100), "10 cents", Check.ARGUMENT, (s, cents) -> s.share(cents));
    }

    private static void promise11() {
        Doc.under("Promise 11: bottle");
        Doc.says("`int bottle(int well, int units)");
        Doc.says("- `well`: its number");
        Springward x = new Springward();
        for (int w = 0; w < 6; w++) {
            x.well(w + 2, 20);
        }
        x.pass(1, 9);
        for (int w = 0; w < 6; w++) {
            int well = w;
            Check.due("11 of well " + w, well, x, s -> s.bottle(well, 2));
            Check.due("11 whose well, " + w, well, x, s -> s.lotOf(well, 0));
            Check.due("11 of the well's cell " + w, 2, x, s -> s.from(well, well + 2, 0));
            Check.due("11 what stays there " + w, 7, x, s -> s.cellOf(well + 2, 0));
        }
        Doc.says("- `units`: 1 to 1000");
        Springward y = new Springward();
        y.well(0, 10000);
        y.pass(2, 1000);
        Check.due("11 the least", 0, y, s -> s.bottle(0, 1));
        Check.due("11 the most", 1, y, s -> s.bottle(0, 1000));
        Check.due("11 units of the least", 1, y, s -> s.lotOf(0, 1));
        Check.due("11 units of the most", 1000, y, s -> s.lotOf(1, 1));
        Check.due("11 all together", 1001L, y, s -> s.sum(3));
        Doc.says("Returns its number.");
        for (int l = 2; l < 40; l++) {
            int lot = l;
            Check.due("11 number " + l, lot, y, s -> s.bottle(0, 1));
        }
    }

    private static void promise11Refused() {
        Doc.says("Throws `IndexOutOfBoundsException` if there is no such well");
        Check.refusedOf(NO_WELLS, "11 well", Check.INDEX, (s, well) -> s.bottle(well, 1));
        Check.refusedOf(NO_WELLS, "11 well, no units", Check.INDEX, (s, well) -> s.bottle(well, 0));
        Check.refusedOf(NO_WELLS, "11 well, units 1001", Check.INDEX, (s, well) -> s.bottle(well, 1001));
        Check.refusedOf(new int[] {3, 4, 5}, NOT_FULL, "11 no such well yet", Check.INDEX,
                (s, well) -> s.bottle(well, 1));
        Check.refusedOf(new int[] {3, 5}, NOT_FULL, "11 no such well yet, no units", Check.INDEX,
                (s, well) -> s.bottle(well, 0));
        Check.refusedOf(new int[] {0, 1}, NONE_YET, "11 no well at all", Check.INDEX,
                (s, well) -> s.bottle(well, 1));
        Doc.says("Throws `IllegalArgumentException` if units are out of range");
        // In some of these, the well may take nothing, the cell has fewer, or there are forty lots.
        for (int w = 0; w < 3; w++) {
            int well = w;
            Check.refusedOf(Check.outside(1, 1000), Scene.USED, "11 units, well " + w, Check.ARGUMENT,
                    (s, units) -> s.bottle(well, units));
        }
    }

    private static void promise11Permit() {
        Doc.says("Throws `IllegalStateException` if the well may not take so many more this year, the cell has"
                + " fewer, or there are 40");
        Check.refused("11 one more than well 0 may take", Check.STATE, Scene.BUSY, s -> s.bottle(0, 41));
        Check.refused("11 many more than well 0 may take", Check.STATE, Scene.BUSY, s -> s.bottle(0, 1000));
        Check.refused("11 one more than well 1 may take", Check.STATE, Scene.BUSY, s -> s.bottle(1, 32));
        Check.due("11 all that well 0 may take", 5, Scene.BUSY.make(), s -> s.bottle(0, 40));
        Check.due("11 all that well 1 may take", 5, Scene.BUSY.make(), s -> s.bottle(1, 31));
        Check.Make tookAll = () -> {
            Springward x = Scene.BUSY.make();
            x.bottle(0, 40);
            return x;
        };
        Check.refused("11 the well took all", Check.STATE, tookAll, s -> s.bottle(0, 1));
        for (int w = 0; w < 3; w++) {
            int well = w;
            Check.refused("11 nothing in a drought, well " + w, Check.STATE, Scene.PARCHED, s -> s.bottle(well, 1));
        }
        for (int w = 0; w < 2; w++) {
            int well = w;
            Check.refused("11 the half is taken, well " + w, Check.STATE, Scene.HALVED, s -> s.bottle(well, 1));
        }
        Check.due("11 another well's half is not", 5, Scene.HALVED.make(), s -> s.bottle(2, 1));
        Springward none = quiet();
        none.well(0, 0);
        none.pass(1, 30);
        Check.due("11 a permit of nothing", Check.STATE, none, s -> s.bottle(0, 1));
        Springward half = quiet();
        half.well(0, 9);
        half.pass(1, 30);
        half.drought(0, 31, 0);
        Check.due("11 one more than the half", Check.STATE, half, s -> s.bottle(0, 5));
        Check.due("11 the half", 0, half, s -> s.bottle(0, 4));
        half.pass(1, 0);
        Check.due("11 the half of the next year", 1, half, s -> s.bottle(0, 4));
    }

    private static void promise11Water() {
        Doc.says("Throws `IllegalStateException` if the well may not take so many more this year, the cell has"
                + " fewer");
        int has = Scene.BUSY.make().cellOf(8, 0);
        Check.refused("11 one more than the cell has", Check.STATE, Scene.BUSY, s -> s.bottle(2, has + 1));
        Check.refused("11 many more than the cell has", Check.STATE, Scene.BUSY, s -> s.bottle(2, 1000));
        Springward x = Scene.BUSY.make();
        Check.due("11 all that the cell has", 5, x, s -> s.bottle(2, has));
        Check.due("11 all of it", has, x, s -> s.lotOf(5, 1));
        Check.due("11 then it is dry", NONE, x, s -> s.cellOf(8, 6));
        Check.Make dry = () -> {
            Springward emptied = Scene.BUSY.make();
            emptied.bottle(2, has);
            return emptied;
        };
        Check.refused("11 the cell is dry", Check.STATE, dry, s -> s.bottle(2, 1));
        Check.refused("11 the cell never had any", Check.STATE, () -> {
            Springward unrained = new Springward();
            unrained.well(3, 50);
            unrained.pass(3, 0);
            return unrained;
        }, s -> s.bottle(0, 1));
    }

    private static void promise11Forty() {
        Doc.says("Throws `IllegalStateException` if the well may not take so many more this year, the cell has"
                + " fewer, or there are 40");
        Check.due("11 well 0 might take more", 5, Scene.FULL.make(), s -> s.wellOf(0, 3));
        Check.refused("11 forty", Check.STATE, Scene.FULL, s -> s.bottle(0, 1));
        Check.refused("11 forty, of another well", Check.STATE, Scene.FULL, s -> s.bottle(1, 1));
        Check.refused("11 forty and permit", Check.STATE, Scene.FULL, s -> s.bottle(0, 6));
        Check.refused("11 forty, permit and water", Check.STATE, Scene.FULL, s -> s.bottle(0, 1000));
        Check.refused("11 forty and units", Check.ARGUMENT, Scene.FULL, s -> s.bottle(0, 0));
        Check.refused("11 forty and well", Check.INDEX, Scene.FULL, s -> s.bottle(6, 1));
        Springward x = Scene.FULL.make();
        x.pass(1, 10);
        Check.due("11 forty in another year", Check.STATE, x, s -> s.bottle(0, 1));
    }

    private static void promise12() {
        Doc.under("Promise 12: treat");
        Doc.says("`int treat(int lot, int treatment)");
        Doc.says("- `lot`: its number");
        Doc.says("- `treatment`: 0 to 5");
        Doc.says("Returns the set of its treatments.");
        Springward x = quiet();
        x.well(0, 100);
        x.pass(1, 39);
        for (int l = 0; l < 39; l++) {
            x.bottle(0, 1);
        }
        for (int lot : new int[] {0, 17, 38}) {
            for (int t = 0; t < 6; t++) {
                int treatment = t;
                Check.due("12 up to " + t + ", lot " + lot, (2 << t) - 1, x, s -> s.treat(lot, treatment));
            }
            Check.due("12 the last once more, lot " + lot, 63, x, s -> s.treat(lot, 5));
            Check.due("12 the first once more, lot " + lot, 63, x, s -> s.treat(lot, 0));
            Check.due("12 told, lot " + lot, 63, x, s -> s.lotOf(lot, 7));
        }
        Check.due("12 that lot alone", 0, x, s -> s.lotOf(16, 7));
        Check.due("12 the last alone", 32, x, s -> s.treat(16, 5));
        x.forbid(5);
        x.forbid(1);
        Check.due("12 a forbidden one", 34, x, s -> s.treat(16, 1));
    }

    private static void promise12Refused() {
        Doc.says("Throws `IndexOutOfBoundsException` if there is no such lot or treatment");
        Check.refusedOf(NO_LOTS, "12 lot", Check.INDEX, (s, lot) -> s.treat(lot, 0));
        Check.refusedOf(NO_LOTS, "12 lot and treatment", Check.INDEX, (s, lot) -> s.treat(lot, 6));
        Check.refusedOf(new int[] {5, 39}, NOT_FULL, "12 no such lot yet", Check.INDEX, (s, lot) -> s.treat(lot, 0));
        Check.refusedOf(new int[] {0, 1}, NONE_YET, "12 no lot at all", Check.INDEX, (s, lot) -> s.treat(lot, 0));
        for (int l = 0; l < 5; l++) {
            int lot = l;
            Check.refusedOf(NO_TREATMENTS, Scene.USED, "12 treatment, lot " + l, Check.INDEX,
                    (s, treatment) -> s.treat(lot, treatment));
        }
        Doc.says("Throws `IllegalStateException` if it is labelled");
        for (int l = 1; l < 5; l++) {
            int lot = l;
            for (int t = 0; t < 6; t++) {
                int treatment = t;
                Check.refusedIn(Scene.USED, "12 labelled, lot " + l + ", treatment " + t, Check.STATE,
                        s -> s.treat(lot, treatment));
            }
        }
        Springward x = Scene.BUSY.make();
        Check.due("12 without a label", 1 | 16, x, s -> s.treat(0, 0));
    }

    private static void promise13() {
        Doc.under("Promise 13: label");
        Doc.says("`boolean label(int lot, int water)");
        Doc.says("- `lot`: its number");
        Doc.says("- `water`: MINERAL to TABLE");
        Doc.says("Returns whether the label is true.");
        for (int water = MINERAL; water <= TABLE; water++) {
            int kind = water;
            labelled("13 mineral water", true, kind, Waters.of(FOREST, 10, 0));
            labelled("13 spring water", kind != MINERAL, kind, Waters.of(FOREST, 9, 1));
            labelled("13 table water", kind == TABLE, kind, Waters.of(FIELD, 20, 4));
        }
        Springward x = quiet();
        x.well(0, 100);
        x.pass(1, 39);
        x.pass(1, 1);
        for (int l = 0; l < 39; l++) {
            x.bottle(0, 1);
        }
        Check.due("13 the last lot", true, x, s -> s.label(38, SPRING));
        Check.due("13 that lot alone", NONE, x, s -> s.lotOf(37, 8));
    }

    private static void labelled(String what, boolean isTrue, int water, Springward x) {
        String which = what + " as " + water;
        Check.due(which + ", none ahead", NONE, x, s -> s.lotOf(0, 8));
        Check.due(which + ", no truth ahead", NONE, x, s -> s.lotOf(0, 9));
        Check.due(which, isTrue, x, s -> s.label(0, water));
        Check.due(which + ", told", water, x, s -> s.lotOf(0, 8));
        Check.due(which + ", its truth", isTrue ? 1 : 0, x, s -> s.lotOf(0, 9));
        Check.due(which + ", false ones", isTrue ? 0L : 1L, x, s -> s.sum(6));
    }

    private static void promise13Refused() {
        Doc.says("Throws `IndexOutOfBoundsException` if there is no such lot");
        Check.refusedOf(NO_LOTS, "13 lot", Check.INDEX, (s, lot) -> s.label(lot, TABLE));
        Check.refusedOf(NO_LOTS, "13 lot and water", Check.INDEX, (s, lot) -> s.label(lot, 3));
        Check.refusedOf(new int[] {5, 39}, NOT_FULL, "13 no such lot yet", Check.INDEX,
                (s, lot) -> s.label(lot, TABLE));
        Check.refusedOf(new int[] {5, 39}, NOT_FULL, "13 no such lot yet, and water", Check.INDEX,
                (s, lot) -> s.label(lot, -1));
        Check.refusedOf(new int[] {0, 1}, NONE_YET, "13 no lot at all", Check.INDEX, (s, lot) -> s.label(lot, TABLE));
        Doc.says("Throws `IllegalArgumentException` if water is out of range");
        for (int l = 0; l < 5; l++) {
            int lot = l;
            Check.refusedOf(NO_WATER, Scene.USED, "13 water, lot " + l, Check.ARGUMENT,
                    (s, water) -> s.label(lot, water));
        }
        Doc.says("Throws `IllegalStateException` if it is labelled");
        for (int l = 1; l < 5; l++) {
            int lot = l;
            for (int w = MINERAL; w <= TABLE; w++) {
                int water = w;
                Check.refusedIn(Scene.USED, "13 labelled, lot " + l + ", as " + w, Check.STATE,
                        s -> s.label(lot, water));
            }
        }
    }

    private static void promise14() {
        Doc.under("Promise 14: forbid");
        Doc.says("`int forbid(int treatment)");
        Doc.says("- `treatment`: 0 to 5");
        Doc.says("Returns how many lots are recalled by that.");
        for (int t = 0; t < 6; t++) {
            int treatment = t;
            Check.due("14 no lots " + t, 0, new Springward(), s -> s.forbid(treatment));
            Check.due("14 a lot without it " + t, 0, one(treatment == 0 ? 1 : 0, SPRING), s -> s.forbid(treatment));
            Check.due("14 a MINERAL lot " + t, 1, one(treatment, MINERAL), s -> s.forbid(treatment));
            Check.due("14 a SPRING lot " + t, 1, one(treatment, SPRING), s -> s.forbid(treatment));
            Check.due("14 a TABLE lot " + t, 0, one(treatment, TABLE), s -> s.forbid(treatment));
            Check.due("14 a lot without a label " + t, 0, Waters.of(FOREST, 10, treatment), s -> s.forbid(treatment));
        }
        Springward all = fortyLots();
        Check.due("14 all forty", 40, all, s -> s.forbid(1));
        Check.due("14 none once more", 0, all, s -> s.forbid(0));
        Check.due("14 the first is recalled", 1, all, s -> s.lotOf(0, 10));
        Check.due("14 the last is recalled", 1, all, s -> s.lotOf(39, 10));
        Springward late = Waters.of(FOREST, 10, 0, 1);
        late.forbid(0);
        Check.due("14 labelled behind it", false, late, s -> s.label(0, SPRING));
        Check.due("14 not recalled by what was forbidden ahead", 0, late, s -> s.lotOf(0, 10));
        Check.due("14 nor as a treatment is that it does not have", 0, late, s -> s.forbid(2));
        Check.due("14 but as one is that it has", 1, late, s -> s.forbid(1));
    }

    private static Springward one(int treatment, int label) {
        Springward x = Waters.of(FOREST, 10, treatment);
        x.label(0, label);
        return x;
    }

    private static Springward fortyLots() {
        Springward x = new Springward();
        x.well(0, 10000);
        x.pass(1, 1000);
        for (int l = 0; l < 40; l++) {
            x.bottle(0, 1);
            x.treat(l, 0);
            x.treat(l, 1);
            x.label(l, l % 2);
        }
        return x;
    }

    private static void promise14Refused() {
        Doc.says("Throws `IndexOutOfBoundsException` if there is no such treatment");
        Check.refusedOf(NO_TREATMENTS, "14 treatment", Check.INDEX, (s, treatment) -> s.forbid(treatment));
        Doc.says("Throws `IllegalStateException` if it is forbidden");
        Check.refusedIn(Scene.USED, "14 forbidden", Check.STATE, s -> s.forbid(3));
        for (int t = 0; t < 6; t++) {
            int treatment = t;
            Check.Make forbidden = () -> {
                Springward x = Waters.of(FOREST, 10, treatment);
                x.forbid(treatment);
                x.label(0, SPRING);
                return x;
            };
            Check.refused("14 forbidden " + t, Check.STATE, forbidden, s -> s.forbid(treatment));
        }
    }
}
