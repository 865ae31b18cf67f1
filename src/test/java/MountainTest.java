/** Promises 1 to 7 and 15 to 17: the mountain, its years, and what is asked of both. */
public final class MountainTest {
    private static final int[] NO_CELLS = {-1, 10, Integer.MIN_VALUE, Integer.MAX_VALUE};

    private MountainTest() {
    }

    public static void main(String[] args) {
        promise1ANewObject();
        promise2Rock();
        promise3Land();
        promise4Lead();
        promise5Spill();
        promise5SpillRefused();
        promise6Contract();
        promise6ContractRefused();
        promise7Pass();
        promise7RowsKeepTheirOrder();
        promise7Nitrate();
        promise7Refused();
        promise15Year();
        promise16CellOf();
        promise17Flow();
        Check.end();
    }

    /** Land, contract, waiting compounds, water, wells and a lot: so that a change would be seen. */
    private static Springward used() {
        Springward x = new Springward();
        x.land(4, Springward.FIELD);
        x.land(5, Springward.FIELD);
        x.contract(5, 7, 30);
        x.spill(8, 3);
        x.well(0, 50);
        x.well(6, 50);
        x.pass(3, 20);
        x.bottle(0, 5);
        x.spill(7, 4);
        return x;
    }

    private static void refused(String what, String exception, Check.Call call) {
        Check.refused(what, exception, MountainTest::used, call);
    }

    private static void promise1ANewObject() {
        Springward x = new Springward();
        Check.due("1 year", 0, x, s -> s.year());
        for (int c = 0; c < 10; c++) {
            int cell = c;
            int[] due = {0, 5, Springward.FOREST, c - 1, 5 * (c + 1), 0, Springward.NONE};
            for (int q = 0; q < 7; q++) {
                int what = q;
                Check.due("1 cellOf " + c + " " + q, due[q], x, s -> s.cellOf(cell, what));
            }
        }
        for (int q = 0; q < 7; q++) {
            int what = q;
            Check.due("1 sum " + q, 0L, x, s -> s.sum(what));
        }
        for (int q = 0; q < 4; q++) {
            int what = q;
            Check.due("1 flow " + q, q == 3 ? Springward.NONE : 0, x, s -> s.flow(what));
        }
        Check.due("1 no well", Check.INDEX, x, s -> s.wellOf(0, 0));
        Check.due("1 no lot", Check.INDEX, x, s -> s.lotOf(0, 0));
        Check.due("1 share", 1, x, s -> s.share(1));
        for (int c = 1; c < 10; c++) {
            int cell = c;
            Check.due("1 nothing waits " + c, 1, x, s -> s.spill(cell, 0));
        }
        for (int t = 0; t < 6; t++) {
            int treatment = t;
            Check.due("1 nothing is forbidden " + t, 0, x, s -> s.forbid(treatment));
        }
    }

    private static void promise2Rock() {
        Springward x = new Springward();
        Check.due("2 first", 5, x, s -> s.rock(3, 40));
        Check.due("2 again", 40, x, s -> s.rock(3, 1));
        Check.due("2 last cell", 5, x, s -> s.rock(9, 2));
        Check.due("2 cell 0", 5, x, s -> s.rock(0, 40));
        Check.due("2 told", 1, x, s -> s.cellOf(3, 1));
        Check.due("2 one cell alone", 5, x, s -> s.cellOf(4, 1));
        for (int cell : NO_CELLS) {
            refused("2 cell " + cell, Check.INDEX, s -> s.rock(cell, 7));
            refused("2 cell and years " + cell, Check.INDEX, s -> s.rock(cell, 0));
        }
        for (int years : new int[] {0, 41, -1, Integer.MIN_VALUE, Integer.MAX_VALUE}) {
            refused("2 years " + years, Check.ARGUMENT, s -> s.rock(0, years));
        }
    }

    private static void promise3Land() {
        Springward x = new Springward();
        Check.due("3 first", Springward.FOREST, x, s -> s.land(2, Springward.FIELD));
        Check.due("3 again", Springward.FIELD, x, s -> s.land(2, Springward.GRASS));
        Check.due("3 back", Springward.GRASS, x, s -> s.land(2, Springward.FOREST));
        Check.due("3 same", Springward.FOREST, x, s -> s.land(2, Springward.FOREST));
        for (int cell : NO_CELLS) {
            refused("3 cell " + cell, Check.INDEX, s -> s.land(cell, Springward.GRASS));
            refused("3 cell and land " + cell, Check.INDEX, s -> s.land(cell, 3));
        }
        for (int land : new int[] {-1, 3, Integer.MIN_VALUE, Integer.MAX_VALUE}) {
            refused("3 land " + land, Check.ARGUMENT, s -> s.land(0, land));
            refused("3 land with a contract " + land, Check.ARGUMENT, s -> s.land(5, land));
        }
        refused("3 contract", Check.STATE, s -> s.land(5, Springward.FOREST));
        refused("3 contract, same land", Check.STATE, s -> s.land(5, Springward.FIELD));
        Springward y = used();
        y.pass(4, 0);
        Check.due("3 contract over", Springward.FIELD, y, s -> s.land(5, Springward.FOREST));
    }

    private static void promise4Lead() {
        Springward x = new Springward();
        Check.due("4 cell 0", Springward.NONE, x, s -> s.lead(0, Springward.NONE));
        Check.due("4 first", 8, x, s -> s.lead(9, 0));
        Check.due("4 again", 0, x, s -> s.lead(9, Springward.NONE));
        Check.due("4 and again", Springward.NONE, x, s -> s.lead(9, 8));
        Check.due("4 told", 8, x, s -> s.cellOf(9, 3));
        for (int cell : NO_CELLS) {
            refused("4 cell " + cell, Check.INDEX, s -> s.lead(cell, 0));
            refused("4 cell and itself " + cell, Check.INDEX, s -> s.lead(cell, cell));
        }
        for (int to : new int[] {-2, 10, 11, Integer.MIN_VALUE, Integer.MAX_VALUE}) {
            refused("4 to no cell " + to, Check.INDEX, s -> s.lead(9, to));
        }
        refused("4 to itself", Check.ARGUMENT, s -> s.lead(4, 4));
        refused("4 to itself, 0", Check.ARGUMENT, s -> s.lead(0, 0));
        refused("4 to a higher one", Check.ARGUMENT, s -> s.lead(4, 5));
        refused("4 to the highest one", Check.ARGUMENT, s -> s.lead(0, 9));
    }

    private static void promise5Spill() {
        Springward x = new Springward();
        Check.due("5 first", 128, x, s -> s.spill(4, 7));
        Check.due("5 second", 129, x, s -> s.spill(4, 0));
        Check.due("5 twice", 129, x, s -> s.spill(4, 0));
        Check.due("5 another cell", 2, x, s -> s.spill(9, 1));
        x.pass(2, 0);
        Check.due("5 waits without rain", 131, x, s -> s.spill(4, 1));
        x.pass(1, 1);
        Check.due("5 rained away", 4, x, s -> s.spill(4, 2));
        Check.due("5 rained away everywhere", 4, x, s -> s.spill(9, 2));
        Springward y = new Springward();
        y.rock(0, 6);
        Check.due("5 six years", 1, y, s -> s.spill(0, 0));
        y.rock(0, 1);
        y.rock(1, 4);
        Check.due("5 five years of two cells", Check.STATE, y, s -> s.spill(1, 0));
        y.rock(1, 5);
        Check.due("5 six years of two cells", 1, y, s -> s.spill(1, 0));
        y.lead(1, Springward.NONE);
        Check.due("5 five years of one alone", Check.STATE, y, s -> s.spill(1, 0));
    }

    private static void promise5SpillRefused() {
        for (int cell : NO_CELLS) {
            refused("5 cell " + cell, Check.INDEX, s -> s.spill(cell, 0));
        }
        for (int compound : new int[] {-1, 8, 32, Integer.MIN_VALUE, Integer.MAX_VALUE}) {
            refused("5 compound " + compound, Check.INDEX, s -> s.spill(9, compound));
            refused("5 compound and travel " + compound, Check.INDEX, s -> s.spill(0, compound));
        }
        refused("5 travel", Check.STATE, s -> s.spill(0, 0));
    }

    private static void promise6Contract() {
        Springward x = new Springward();
        x.land(1, Springward.FIELD);
        x.land(2, Springward.FIELD);
        x.land(3, Springward.FIELD);
        x.contract(1, 1, 0);
        x.contract(2, 30, 1000);
        x.contract(3, 2, 10);
        Check.due("6 years", 30, x, s -> s.cellOf(2, 5));
        Check.due("6 no cost yet", 0L, x, s -> s.sum(4));
        x.pass(1, 0);
        Check.due("6 cost of a year", 1010L, x, s -> s.sum(4));
        Check.due("6 over", 0, x, s -> s.cellOf(1, 5));
        Check.due("6 a year less", 29, x, s -> s.cellOf(2, 5));
        x.contract(1, 3, 5);
        Check.due("6 once more", 3, x, s -> s.cellOf(1, 5));
        x.pass(20, 3);
        Check.due("6 cost of many", 21000L + 20 + 15, x, s -> s.sum(4));
        x.pass(20, 3);
        Check.due("6 cost to the end", 30000L + 20 + 15, x, s -> s.sum(4));
        Check.due("6 free again", Springward.FIELD, x, s -> s.land(2, Springward.FOREST));
    }

    private static void promise6ContractRefused() {
        for (int cell : NO_CELLS) {
            refused("6 cell " + cell, Check.INDEX, s -> none(s, cell, 1, 1));
            refused("6 cell and years " + cell, Check.INDEX, s -> none(s, cell, 0, -1));
        }
        for (int years : new int[] {0, 31, -1, Integer.MIN_VALUE, Integer.MAX_VALUE}) {
            refused("6 years " + years, Check.ARGUMENT, s -> none(s, 4, years, 1));
            refused("6 years of a forest " + years, Check.ARGUMENT, s -> none(s, 0, years, 1));
        }
        for (int pay : new int[] {-1, 1001, Integer.MIN_VALUE, Integer.MAX_VALUE}) {
            refused("6 pay " + pay, Check.ARGUMENT, s -> none(s, 4, 1, pay));
            refused("6 pay with a contract " + pay, Check.ARGUMENT, s -> none(s, 5, 1, pay));
        }
        refused("6 forest", Check.STATE, s -> none(s, 0, 1, 1));
        refused("6 contract", Check.STATE, s -> none(s, 5, 1, 1));
        Springward x = new Springward();
        x.land(0, Springward.GRASS);
        Check.due("6 grass", Check.STATE, x, s -> none(s, 0, 1, 1));
    }

    private static Object none(Springward x, int cell, int years, int pay) {
        x.contract(cell, years, pay);
        return "nothing";
    }

    private static void promise7Pass() {
        Springward x = new Springward();
        x.lead(2, 0);
        x.rock(1, 3);
        Check.due("7 a year", 1, x, s -> s.pass(1, 10));
        units(x, "7 rain alone", 10, 10, 10, 10, 10, 10, 10, 10, 10, 10);
        Check.due("7 no flow yet", 0, x, s -> s.flow(0));
        x.pass(1, 0);
        // By 5, and by 3 in cell 1: both 1 and 2 lead to 0, 3 leads to 2, none to 1.
        units(x, "7 one on", 10 - 2 + 3 + 2, 10 - 3, 10, 10, 10, 10, 10, 10, 10, 8);
        Check.due("7 flow", 2, x, s -> s.flow(0));
        x.pass(1, 4);
        units(x, "7 two on", 13 - 2 + 2 + 2 + 4, 7 - 2 + 4, 14, 14, 14, 14, 14, 14, 10 - 2 + 1 + 4, 8 - 1 + 4);
        Check.due("7 fell", 140L, x, s -> s.sum(0));
        Check.due("7 came", 4L, x, s -> s.sum(2));
        Check.equal("7 years alike", Story.whole(() -> {
            Springward many = new Springward();
            many.pass(5, 13);
            return many;
        }), Story.whole(() -> {
            Springward single = new Springward();
            for (int i = 0; i < 5; i++) {
                single.pass(1, 13);
            }
            return single;
        }));
        Springward holding = new Springward();
        holding.pass(20, 4);
        Check.due("7 all is in the cells or came to the spring", 20L * 40, holding,
                s -> s.sum(2) + s.sum(1));
    }

    private static void units(Springward x, String what, int... due) {
        for (int c = 0; c < 10; c++) {
            int cell = c;
            Check.due(what + " in " + c, due[c], x, s -> s.cellOf(cell, 0));
        }
    }

    private static void promise7RowsKeepTheirOrder() {
        Springward x = new Springward();
        x.rock(0, 40);
        x.rock(1, 1);
        x.well(0, 10000);
        x.pass(1, 10);
        x.pass(1, 10);
        // Cell 0: its own 10 of year 0, then 10 of year 0 from cell 1, then 10 of year 1.
        Check.due("7 whole cell leads on", 30, x, s -> s.cellOf(0, 0));
        Check.due("7 front", 0, x, s -> s.cellOf(0, 6));
        x.bottle(0, 15);
        Check.due("7 own ahead", 10, x, s -> s.from(0, 0, 0));
        Check.due("7 led behind", 5, x, s -> s.from(0, 1, 0));
        x.bottle(0, 7);
        Check.due("7 rest stays in front", 5, x, s -> s.from(1, 1, 0));
        Check.due("7 rain behind", 2, x, s -> s.from(1, 0, 1));
        Check.due("7 new front", 1, x, s -> s.cellOf(0, 6));
    }

    private static void promise7Nitrate() {
        Springward x = new Springward();
        for (int c = 0; c < 10; c++) {
            x.lead(c, Springward.NONE);
            x.rock(c, 1);
        }
        x.land(1, Springward.GRASS);
        x.land(2, Springward.FIELD);
        x.land(3, Springward.FIELD);
        x.contract(3, 2, 0);
        x.pass(2, 10);
        Check.due("7 nitrate with a contract", 70 + 30 + 100 + 30, x, s -> s.flow(1));
        x.pass(1, 10);
        Check.due("7 nitrate of its last year", 70 + 30 + 100 + 30, x, s -> s.flow(1));
        x.pass(1, 10);
        Check.due("7 nitrate without it", 70 + 30 + 100 + 100, x, s -> s.flow(1));
        x.land(2, Springward.FOREST);
        x.pass(1, 0);
        Check.due("7 nitrate of what fell ahead", 70 + 30 + 100 + 100, x, s -> s.flow(1));
        x.pass(1, 0);
        Check.due("7 no flow any more", 0, x, s -> s.flow(1));
        Check.due("7 all came", 400L, x, s -> s.sum(2));
    }

    private static void promise7Refused() {
        for (int years : new int[] {0, 21, -1, Integer.MIN_VALUE, Integer.MAX_VALUE}) {
            refused("7 years " + years, Check.ARGUMENT, s -> s.pass(years, 1));
        }
        for (int rain : new int[] {-1, 1001, Integer.MIN_VALUE, Integer.MAX_VALUE}) {
            refused("7 rain " + rain, Check.ARGUMENT, s -> s.pass(1, rain));
        }
        Check.Make late = () -> {
            Springward x = used();
            for (int i = 0; i < 14; i++) {
                x.pass(20, 1);
            }
            x.pass(14, 1);
            return x;
        };
        Check.due("7 late", 297, late.make(), s -> s.year());
        Check.refused("7 above 300", Check.STATE, late, s -> s.pass(4, 1));
        Check.refused("7 far above 300", Check.STATE, late, s -> s.pass(20, 1000));
        Check.refused("7 years and above 300", Check.ARGUMENT, late, s -> s.pass(21, 1));
        Check.refused("7 rain and above 300", Check.ARGUMENT, late, s -> s.pass(4, 1001));
        Springward x = late.make();
        Check.due("7 up to 300", 300, x, s -> s.pass(3, 1000));
        Check.due("7 no year more", Check.STATE, x, s -> s.pass(1, 0));
        Springward y = new Springward();
        Check.due("7 twenty years, most rain", 20, y, s -> s.pass(20, 1000));
        Check.due("7 all of it", 200000L, y, s -> s.sum(0));
    }

    private static void promise15Year() {
        Springward x = new Springward();
        x.pass(20, 0);
        Check.due("15 year", 20, x, s -> s.year());
        x.pass(1, 5);
        Check.due("15 next year", 21, x, s -> s.year());
        Check.due("15 asked again", 21, x, s -> s.year());
    }

    private static void promise16CellOf() {
        Springward x = new Springward();
        x.rock(9, 40);
        x.land(9, Springward.FIELD);
        x.lead(9, 2);
        x.contract(9, 12, 3);
        x.pass(2, 0);
        Check.due("16 dry front", Springward.NONE, x, s -> s.cellOf(9, 6));
        x.pass(1, 39);
        int[] due = {39, 40, Springward.FIELD, 2, 40 + 15, 9, 2};
        for (int q = 0; q < 7; q++) {
            int what = q;
            Check.due("16 what " + q, due[q], x, s -> s.cellOf(9, what));
        }
        for (int cell : NO_CELLS) {
            refused("16 cell " + cell, Check.INDEX, s -> s.cellOf(cell, 0));
            refused("16 cell and what " + cell, Check.INDEX, s -> s.cellOf(cell, 7));
        }
        for (int what : new int[] {-1, 7, Integer.MIN_VALUE, Integer.MAX_VALUE}) {
            refused("16 what " + what, Check.ARGUMENT, s -> s.cellOf(0, what));
        }
        Springward y = new Springward();
        y.rock(0, 1);
        y.lead(1, Springward.NONE);
        y.pass(1, 3);
        y.pass(1, 0);
        Check.due("16 emptied", 0, y, s -> s.cellOf(0, 0));
        Check.due("16 emptied front", Springward.NONE, y, s -> s.cellOf(0, 6));
        y.pass(1, 3);
        Check.due("16 filled again", 2, y, s -> s.cellOf(0, 6));
    }

    private static void promise17Flow() {
        Springward x = new Springward();
        x.rock(0, 1);
        x.rock(1, 40);
        x.land(1, Springward.FIELD);
        x.spill(1, 6);
        x.spill(2, 1);
        x.pass(1, 40);
        x.pass(1, 0);
        // Cell 1 has led on one unit of its own and 8 are come to it.
        Check.due("17 own water alone", 40, x, s -> s.flow(0));
        Check.due("17 no compounds", 0, x, s -> s.flow(2));
        x.pass(1, 25);
        Check.due("17 one unit", 1, x, s -> s.flow(0));
        Check.due("17 its nitrate", 10, x, s -> s.flow(1));
        Check.due("17 its compound", 64, x, s -> s.flow(2));
        Check.due("17 its year", 0, x, s -> s.flow(3));
        x.pass(1, 0);
        Check.due("17 units", 1 + 25, x, s -> s.flow(0));
        Check.due("17 nitrate", 10 + 25, x, s -> s.flow(1));
        Check.due("17 oldest", 0, x, s -> s.flow(3));
        Check.due("17 all of it", 40L + 1 + 26, x, s -> s.sum(2));
        for (int what : new int[] {-1, 4, Integer.MIN_VALUE, Integer.MAX_VALUE}) {
            refused("17 what " + what, Check.ARGUMENT, s -> s.flow(what));
        }
        Springward y = new Springward();
        y.lead(1, Springward.NONE);
        y.rock(0, 1);
        y.rock(1, 10);
        y.spill(1, 2);
        y.pass(2, 20);
        // Cell 0 has led all of the year 0 on, and leads ahead of cell 1.
        y.pass(1, 0);
        Check.due("17 oldest, not the first", 0, y, s -> s.flow(3));
        Check.due("17 compounds, not of the first", 4, y, s -> s.flow(2));
        Springward dry = new Springward();
        dry.pass(1, 4);
        dry.pass(1, 0);
        Check.due("17 nothing came", 0, dry, s -> s.flow(0));
        Check.due("17 no year", Springward.NONE, dry, s -> s.flow(3));
    }
}
