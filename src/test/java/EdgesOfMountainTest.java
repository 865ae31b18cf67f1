/** Promises 1 to 7, sentence by sentence: what is just in range, just out of it, and refused. */
public final class EdgesOfMountainTest {
    private static final int FOREST = Springward.FOREST;
    private static final int GRASS = Springward.GRASS;
    private static final int FIELD = Springward.FIELD;
    private static final int NONE = Springward.NONE;

    private static final int[] NO_CELLS = Check.outside(0, 9);
    private static final int[] NO_LAND = Check.outside(FOREST, FIELD);

    private EdgesOfMountainTest() {
    }

    public static void main(String[] args) {
        promise1();
        promise2();
        promise2Refused();
        promise3();
        promise3Refused();
        promise4();
        promise4Refused();
        promise5();
        promise5Refused();
        promise5Travel();
        promise6();
        promise6Refused();
        promise6State();
        promise7();
        promise7Refused();
        promise7Above300();
        Doc.end();
    }

    private static void promise1() {
        Doc.under("Promise 1: A new object");
        Doc.says("`Springward()`: A dry mountain, no wells and lots;");
        Springward x = new Springward();
        for (int c = 0; c < 10; c++) {
            int cell = c;
            Check.due("1 dry " + c, 0, x, s -> s.cellOf(cell, 0));
            Check.due("1 no contract " + c, 0, x, s -> s.cellOf(cell, 5));
            Check.due("1 no front " + c, NONE, x, s -> s.cellOf(cell, 6));
        }
        Check.due("1 no flow", 0, x, s -> s.flow(0));
        Check.due("1 nothing in the cells", 0L, x, s -> s.sum(1));
        Check.due("1 no well", Check.INDEX, x, s -> s.wellOf(0, 0));
        Check.due("1 no well to bottle from", Check.INDEX, x, s -> s.bottle(0, 1));
        Check.due("1 no lot", Check.INDEX, x, s -> s.lotOf(0, 0));
        Check.due("1 no lot to treat", Check.INDEX, x, s -> s.treat(0, 0));
        Check.due("1 the first well", 0, x, s -> s.well(9, 10));
        x.pass(1, 1);
        Check.due("1 the first lot", 0, x, s -> s.bottle(0, 1));
        Doc.says("the year 0.");
        Check.due("1 year", 0, new Springward(), s -> s.year());
        // What is done to one object is nothing to another.
        Check.equal("1 another object", Story.whole(() -> {
            Springward other = new Springward();
            Scene.FULL.make();
            return other;
        }), Story.whole(Scene.NEW));
    }

    private static void promise2() {
        Doc.under("Promise 2: rock");
        Doc.says("`int rock(int cell, int years)");
        Springward x = new Springward();
        x.pass(1, 12);
        x.rock(0, 3);
        x.rock(1, 6);
        x.pass(1, 0);
        Check.due("2 a third of 12 flows", 4, x, s -> s.flow(0));
        Check.due("2 and a sixth comes", 12 - 4 + 2, x, s -> s.cellOf(0, 0));
        Check.due("2 with a contract too", 9, contracted(), s -> s.rock(4, 8));
        waitsOn("2", s -> s.rock(4, 8));
        Doc.says("- `cell`: 0 to 9");
        Doc.says("- `years`: 1 to 40");
        Doc.says("Returns what it was.");
        Springward y = new Springward();
        for (int c = 0; c < 10; c++) {
            int cell = c;
            Check.due("2 at first " + c, 5, y, s -> s.rock(cell, 1));
            Check.due("2 the least " + c, 1, y, s -> s.rock(cell, 40));
            Check.due("2 the most " + c, 40, y, s -> s.rock(cell, 40));
            Check.due("2 again " + c, 40, y, s -> s.rock(cell, cell + 10));
        }
        for (int c = 0; c < 10; c++) {
            int cell = c;
            Check.due("2 that cell alone " + c, c + 10, y, s -> s.cellOf(cell, 1));
        }
        for (int years = 2; years <= 40; years++) {
            int now = years;
            y.rock(7, years);
            Check.due("2 years " + years, now, y, s -> s.cellOf(7, 1));
        }
    }

    /** Cell 4 has a contract, rock for 9 years, and the compound 6 waits there. */
    private static Springward contracted() {
        Springward x = new Springward();
        x.land(4, FIELD);
        x.rock(4, 9);
        x.contract(4, 2, 5);
        x.spill(4, 6);
        return x;
    }

    private static void waitsOn(String promise, Check.Call call) {
        Springward x = contracted();
        x.pass(2, 0);
        call.on(x);
        Check.due(promise + " what waits waits on", 64 + 1, x, s -> s.spill(4, 0));
        Check.due(promise + " the contract's cost stays", 10L, x, s -> s.sum(4));
    }

    private static void promise2Refused() {
        Doc.says("Throws `IndexOutOfBoundsException` if there is no such cell");
        Check.refusedOf(NO_CELLS, "2 rock", Check.INDEX, (s, cell) -> s.rock(cell, 7));
        Check.refusedOf(NO_CELLS, "2 rock for 0 years", Check.INDEX, (s, cell) -> s.rock(cell, 0));
        Check.refusedOf(NO_CELLS, "2 rock for 41 years", Check.INDEX, (s, cell) -> s.rock(cell, 41));
        Doc.says("Throws `IllegalArgumentException` if years is out of range");
        Check.refusedOf(Check.outside(1, 40), "2 years", Check.ARGUMENT, (s, years) -> s.rock(0, years));
        Check.refusedOf(Check.outside(1, 40), "2 years of cell 9", Check.ARGUMENT, (s, years) -> s.rock(9, years));
    }

    private static void promise3() {
        Doc.under("Promise 3: land");
        Doc.says("`int land(int cell, int land)");
        waitsOn("3", s -> s.land(4, GRASS));
        Doc.says("- `cell`: 0 to 9");
        Doc.says("- `land`: FOREST to FIELD");
        Doc.says("Returns what it was.");
        for (int c = 0; c < 10; c++) {
            int cell = c;
            Springward x = new Springward();
            for (int to = FOREST; to <= FIELD; to++) {
                for (int was = FOREST; was <= FIELD; was++) {
                    int before = was;
                    int land = to;
                    x.land(cell, was);
                    Check.due("3 " + was + " to " + to + " in " + c, before, x, s -> s.land(cell, land));
                    Check.due("3 then " + was + " to " + to + " in " + c, land, x, s -> s.cellOf(cell, 2));
                }
            }
            for (int o = 0; o < 10; o++) {
                int other = o;
                Check.due("3 that cell alone " + c + " " + o, o == c ? FIELD : FOREST, x, s -> s.cellOf(other, 2));
            }
        }
    }

    private static void promise3Refused() {
        Doc.says("Throws `IndexOutOfBoundsException` if there is no such cell");
        Check.refusedOf(NO_CELLS, "3 land", Check.INDEX, (s, cell) -> s.land(cell, FIELD));
        Check.refusedOf(NO_CELLS, "3 no such land", Check.INDEX, (s, cell) -> s.land(cell, 3));
        Check.refusedOf(NO_CELLS, "3 no such land below", Check.INDEX, (s, cell) -> s.land(cell, -1));
        Doc.says("Throws `IllegalArgumentException` if land is out of range");
        Check.refusedOf(NO_LAND, "3 land", Check.ARGUMENT, (s, land) -> s.land(0, land));
        Check.refusedOf(NO_LAND, "3 land with a contract", Check.ARGUMENT, (s, land) -> s.land(5, land));
        Doc.says("Throws `IllegalStateException` if it has a contract");
        Scene[] contracts = {Scene.BUSY, Scene.PARCHED, Scene.FULL};
        for (int l = FOREST; l <= FIELD; l++) {
            int land = l;
            Check.refusedIn(contracts, "3 contract of ten years, to " + l, Check.STATE, s -> s.land(5, land));
            Check.refusedIn(contracts, "3 contract of a year, to " + l, Check.STATE, s -> s.land(6, land));
        }
        Springward x = Scene.BUSY.make();
        x.pass(1, 0);
        Check.due("3 its contract is over", FIELD, x, s -> s.land(6, GRASS));
        Check.due("3 another one's is not", Check.STATE, x, s -> s.land(5, GRASS));
        Check.due("3 a field without a contract", FIELD, x, s -> s.land(4, GRASS));
    }

    private static void promise4() {
        Doc.under("Promise 4: lead");
        Doc.says("`int lead(int cell, int to)");
        Springward x = new Springward();
        for (int c = 0; c < 10; c++) {
            x.rock(c, 1);
        }
        x.lead(9, 0);
        x.lead(5, NONE);
        x.pass(1, 7);
        x.pass(1, 0);
        int[] units = {14, 7, 7, 7, 0, 7, 7, 7, 0, 0};
        for (int c = 0; c < 10; c++) {
            int cell = c;
            Check.due("4 water goes there, cell " + c, units[c], x, s -> s.cellOf(cell, 0));
        }
        Check.due("4 and to the spring", 14, x, s -> s.flow(0));
        Check.due("4 with a contract too", 3, contracted(), s -> s.lead(4, 1));
        waitsOn("4", s -> s.lead(4, 1));
        Doc.says("- `cell`: 0 to 9");
        Doc.says("- `to`: a cell with a lower number, or NONE, the spring");
        Doc.says("Returns to where it led.");
        Springward y = new Springward();
        for (int c = 0; c < 10; c++) {
            int cell = c;
            int led = c - 1;
            for (int t = NONE; t < c; t++) {
                int to = t;
                int was = led;
                Check.due("4 from " + c + " to " + t, was, y, s -> s.lead(cell, to));
                Check.due("4 told, from " + c + " to " + t, to, y, s -> s.cellOf(cell, 3));
                led = to;
            }
        }
        Check.due("4 to where it led already", 8, y, s -> s.lead(9, 8));
    }

    private static void promise4Refused() {
        Doc.says("Throws `IndexOutOfBoundsException` if there is no such cell, of both");
        Check.refusedOf(NO_CELLS, "4 lead to 0", Check.INDEX, (s, cell) -> s.lead(cell, 0));
        Check.refusedOf(NO_CELLS, "4 lead to the spring", Check.INDEX, (s, cell) -> s.lead(cell, NONE));
        Check.refusedOf(NO_CELLS, "4 lead to 9", Check.INDEX, (s, cell) -> s.lead(cell, 9));
        Check.refusedOf(NO_CELLS, "4 lead to itself", Check.INDEX, (s, cell) -> s.lead(cell, cell));
        Check.refusedOf(NO_CELLS, "4 lead to no cell", Check.INDEX, (s, cell) -> s.lead(cell, 10));
        int[] noTargets = Check.outside(NONE, 9);
        Check.refusedOf(noTargets, "4 to", Check.INDEX, (s, to) -> s.lead(9, to));
        Check.refusedOf(noTargets, "4 to, of cell 0", Check.INDEX, (s, to) -> s.lead(0, to));
        Doc.says("Throws `IllegalArgumentException` if to is not lower");
        for (int c = 0; c < 10; c++) {
            int cell = c;
            Check.refusedAnywhere("4 to itself " + c, Check.ARGUMENT, s -> s.lead(cell, cell));
            for (int t = c + 1; t < 10; t++) {
                int to = t;
                Check.refused("4 " + c + " to the higher " + t, Check.ARGUMENT, Scene.BUSY, s -> s.lead(cell, to));
            }
        }
    }

    private static void promise5() {
        Doc.under("Promise 5: spill");
        Doc.says("`int spill(int cell, int compound)");
        Doc.says("- `cell`: 0 to 9");
        Doc.says("- `compound`: 0 to 7");
        Doc.says("Returns the set that waits there for rain.");
        Springward x = new Springward();
        x.rock(0, 6);
        for (int c = 0; c < 10; c++) {
            int cell = c;
            for (int k = 0; k < 8; k++) {
                int compound = k;
                Check.due("5 compounds up to " + k + " on " + c, (2 << k) - 1, x, s -> s.spill(cell, compound));
            }
            Check.due("5 the first once more on " + c, 255, x, s -> s.spill(cell, 0));
            Check.due("5 the last once more on " + c, 255, x, s -> s.spill(cell, 7));
        }
        x.pass(1, 1);
        for (int c = 0; c < 10; c++) {
            int cell = c;
            Check.due("5 the last one alone behind the rain, on " + c, 128, x, s -> s.spill(cell, 7));
        }
        x.spill(0, 1);
        Check.due("5 on that cell alone", 128 + 8, x, s -> s.spill(9, 3));
    }

    private static void promise5Refused() {
        Doc.says("Throws `IndexOutOfBoundsException` if there is no such cell or compound");
        Check.refusedOf(NO_CELLS, "5 spill", Check.INDEX, (s, cell) -> s.spill(cell, 0));
        Check.refusedOf(NO_CELLS, "5 spill no compound", Check.INDEX, (s, cell) -> s.spill(cell, 8));
        int[] noCompounds = Check.outside(0, 7);
        Check.refusedOf(noCompounds, "5 compound", Check.INDEX, (s, compound) -> s.spill(9, compound));
        // In a new object the travel from cell 0 is 5 years, and in others that from cell 3.
        Check.refusedOf(noCompounds, new Scene[] {Scene.NEW}, "5 compound and travel", Check.INDEX,
                (s, compound) -> s.spill(0, compound));
        Check.refusedOf(noCompounds, Scene.USED, "5 compound and travel", Check.INDEX,
                (s, compound) -> s.spill(3, compound));
    }

    private static void promise5Travel() {
        Doc.says("Throws `IllegalStateException` if the travel from the cell is 5 years or less");
        Check.refused("5 years of cell 0", Check.STATE, Scene.NEW, s -> s.spill(0, 1));
        Check.refusedIn(Scene.USED, "5 4 years", Check.STATE, s -> s.spill(2, 1));
        Check.refusedIn(Scene.USED, "5 5 years", Check.STATE, s -> s.spill(3, 1));
        Check.refusedIn(Scene.USED, "5 5 years, last compound", Check.STATE, s -> s.spill(3, 7));
        for (int y = 1; y <= 40; y++) {
            int years = y;
            Springward x = new Springward();
            x.rock(9, years);
            x.lead(9, NONE);
            Check.due("5 travel of " + y, y <= 5 ? Check.STATE : 1, x, s -> s.spill(9, 0));
            Springward two = new Springward();
            two.rock(9, 1);
            two.rock(0, years);
            two.lead(9, 0);
            Check.due("5 travel of 1 and " + y, y <= 4 ? Check.STATE : 1, two, s -> s.spill(9, 0));
        }
        Springward five = new Springward();
        for (int c = 0; c < 10; c++) {
            five.rock(c, 1);
        }
        Check.due("5 five cells of a year", Check.STATE, five, s -> s.spill(4, 0));
        Check.due("5 six cells of a year", 1, five, s -> s.spill(5, 0));
        five.lead(5, 3);
        Check.due("5 by a shorter way", Check.STATE, five, s -> s.spill(5, 0));
        five.pass(1, 1);
        five.lead(5, 4);
        Check.due("5 what waited is gone with the rain", 2, five, s -> s.spill(5, 1));
        Springward kept = new Springward();
        kept.spill(1, 3);
        kept.lead(1, NONE);
        Check.due("5 not any more", Check.STATE, kept, s -> s.spill(1, 4));
        kept.lead(1, 0);
        Check.due("5 what waited there still waits", 8 + 32, kept, s -> s.spill(1, 5));
    }

    private static void promise6() {
        Doc.under("Promise 6: contract");
        Doc.says("`void contract(int cell, int years, int pay)");
        Doc.says("- `cell`: 0 to 9");
        Doc.says("- `years`: 1 to 30");
        Doc.says("- `pay`: 0 to 1000: for each year");
        for (int c = 0; c < 10; c++) {
            int cell = c;
            Springward x = new Springward();
            x.land(cell, FIELD);
            Check.due("6 the longest, unpaid, of " + c, "nothing", x, Check.deed(s -> s.contract(cell, 30, 0)));
            for (int o = 0; o < 10; o++) {
                int other = o;
                Check.due("6 that cell alone " + c + " " + o, o == c ? 30 : 0, x, s -> s.cellOf(other, 5));
            }
            x.pass(20, 1);
            x.pass(9, 1);
            Check.due("6 a year of it is left " + c, 1, x, s -> s.cellOf(cell, 5));
            x.pass(1, 1);
            Check.due("6 no year of it is left " + c, 0, x, s -> s.cellOf(cell, 5));
            Check.due("6 it cost nothing " + c, 0L, x, s -> s.sum(4));
            Check.due("6 the shortest, best paid, of " + c, "nothing", x,
                    Check.deed(s -> s.contract(cell, 1, 1000)));
            x.pass(3, 1);
            Check.due("6 it cost a year's pay " + c, 1000L, x, s -> s.sum(4));
        }
    }

    private static void promise6Refused() {
        Doc.says("Throws `IndexOutOfBoundsException` if there is no such cell");
        contracts(NO_CELLS, "6 contract", Check.INDEX, 1, 1);
        contracts(NO_CELLS, "6 contract of 0 years", Check.INDEX, 0, 1);
        contracts(NO_CELLS, "6 contract with pay -1", Check.INDEX, 1, -1);
        contracts(NO_CELLS, "6 contract with all wrong", Check.INDEX, 31, 1001);
        Doc.says("Throws `IllegalArgumentException` if years or pay is out of range");
        // In all but the new object, cell 4 is a field, 0 is forest, 7 is grass, and 5 has a contract.
        for (int c : new int[] {4, 0, 7, 5}) {
            int cell = c;
            Check.refusedOf(Check.outside(1, 30), "6 years, cell " + c, Check.ARGUMENT,
                    (s, years) -> done(s, cell, years, 5));
            Check.refusedOf(Check.outside(0, 1000), "6 pay, cell " + c, Check.ARGUMENT,
                    (s, pay) -> done(s, cell, 5, pay));
            Check.refusedAnywhere("6 both, cell " + c, Check.ARGUMENT, s -> done(s, cell, 0, -1));
        }
    }

    private static void contracts(int[] cells, String what, String exception, int years, int pay) {
        Check.refusedOf(cells, what, exception, (s, cell) -> done(s, cell, years, pay));
    }

    private static Object done(Springward x, int cell, int years, int pay) {
        x.contract(cell, years, pay);
        return "nothing";
    }

    private static void promise6State() {
        Doc.says("Throws `IllegalStateException` if it is no FIELD, or has a contract");
        Check.refusedAnywhere("6 forest", Check.STATE, s -> done(s, 0, 3, 9));
        Check.refusedIn(Scene.USED, "6 grass", Check.STATE, s -> done(s, 7, 3, 9));
        Scene[] contracts = {Scene.BUSY, Scene.PARCHED, Scene.FULL};
        Check.refusedIn(contracts, "6 a contract of ten years", Check.STATE, s -> done(s, 5, 30, 1000));
        Check.refusedIn(contracts, "6 a contract of a year", Check.STATE, s -> done(s, 6, 30, 1000));
        Check.refusedIn(contracts, "6 a contract alike", Check.STATE, s -> done(s, 6, 1, 40));
        Springward x = Scene.BUSY.make();
        Check.due("6 a field without one", "nothing", x, s -> done(s, 4, 3, 9));
        Check.due("6 the same field", Check.STATE, x, s -> done(s, 4, 3, 9));
    }

    private static void promise7() {
        Doc.under("Promise 7: pass");
        Doc.says("`int pass(int years, int rain)");
        for (int rain : new int[] {0, 1, 13, 1000}) {
            Check.equal("7 years alike, rain " + rain, Story.whole(() -> {
                Springward many = wet();
                many.pass(20, rain);
                return many;
            }), Story.whole(() -> {
                Springward single = wet();
                for (int year = 0; year < 20; year++) {
                    single.pass(1, rain);
                }
                return single;
            }));
        }
        Doc.says("- `years`: 1 to 20");
        Doc.says("Returns the year then.");
        Springward x = new Springward();
        int then = 0;
        for (int y = 1; y <= 20; y++) {
            int years = y;
            then += y;
            Check.due("7 years " + y, then, x, s -> s.pass(years, 1));
            Check.due("7 then, years " + y, then, x, s -> s.year());
            Check.due("7 a rain of each year", 10L * then, x, s -> s.sum(0));
        }
        Doc.says("- `rain`: 0 to 1000: units for each cell and year");
        Springward y = new Springward();
        y.pass(1, 0);
        Check.due("7 no rain", 0L, y, s -> s.sum(0));
        y.pass(3, 1);
        Check.due("7 the least rain", 30L, y, s -> s.sum(0));
        y.pass(2, 1000);
        Check.due("7 the most rain", 30L + 20000, y, s -> s.sum(0));
        y.pass(1, 0);
        Check.due("7 no rain again", 30L + 20000, y, s -> s.sum(0));
    }

    private static Springward wet() {
        Springward x = new Springward();
        x.land(2, FIELD);
        x.contract(2, 4, 6);
        x.well(0, 5);
        x.rock(1, 2);
        x.spill(4, 4);
        x.pass(2, 9);
        x.bottle(0, 5);
        x.spill(5, 4);
        return x;
    }

    private static void promise7Refused() {
        Doc.says("Throws `IllegalArgumentException` if years or rain is out of range");
        int[] noYears = Check.outside(1, 20);
        int[] noRain = Check.outside(0, 1000);
        Check.refusedOf(noYears, "7 years", Check.ARGUMENT, (s, years) -> s.pass(years, 5));
        Check.refusedOf(noYears, "7 years and rain", Check.ARGUMENT, (s, years) -> s.pass(years, 1001));
        Check.refusedOf(noRain, "7 rain", Check.ARGUMENT, (s, rain) -> s.pass(1, rain));
        Check.refusedOf(noRain, "7 rain of many years", Check.ARGUMENT, (s, rain) -> s.pass(20, rain));
    }

    private static void promise7Above300() {
        Doc.says("Throws `IllegalStateException` if it would be above 300");
        for (int years = 4; years <= 20; years++) {
            int more = years;
            Check.refused("7 above 300 by " + (years - 3), Check.STATE, Scene.LATE, s -> s.pass(more, 1000));
        }
        for (int years = 1; years <= 20; years++) {
            int more = years;
            Check.refused("7 in the year 300, " + years, Check.STATE, Scene.LAST, s -> s.pass(more, 0));
        }
        for (int years = 1; years <= 3; years++) {
            int more = years;
            Check.due("7 up to " + (297 + years), 297 + years, Scene.LATE.make(), s -> s.pass(more, 1000));
        }
        Springward x = new Springward();
        for (int i = 1; i <= 15; i++) {
            int due = 20 * i;
            Check.due("7 twenty years " + i, due, x, s -> s.pass(20, 1000));
        }
        Check.due("7 not one year more", Check.STATE, x, s -> s.pass(1, 1000));
        Check.due("7 all that fell", 3000000L, x, s -> s.sum(0));
    }
}
