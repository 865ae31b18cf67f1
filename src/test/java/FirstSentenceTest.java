/** The document's first sentence, part by part, as runs of many years. */
public final class FirstSentenceTest {
    private static final int FOREST = Springward.FOREST;
    private static final int GRASS = Springward.GRASS;
    private static final int FIELD = Springward.FIELD;
    private static final int MINERAL = Springward.MINERAL;
    private static final int SPRING = Springward.SPRING;
    private static final int TABLE = Springward.TABLE;
    private static final int NONE = Springward.NONE;

    private FirstSentenceTest() {
    }

    public static void main(String[] args) {
        Doc.under("What it is");
        Doc.says("Water that takes forty years to come: a mountain of cells");
        fortyYearsToCome();
        heldAndLedOn();
        nitrateByTheLand();
        spillsDecadesBehind();
        fieldsTurnedToGrass();
        permitsCutByADrought();
        lotsThatKnowEachPortion();
        listedOrForbidden();
        labelsTrueOrNot();
        theVillagesShare();
        whenceItCame();
        Doc.saysNoAnswer("An object is used for at most 512 calls");
        Doc.saysNoAnswer("what later calls answer is free.");
        Doc.end();
    }

    /** Each cell holds water for 40 years and leads to the spring. */
    private static Springward slow() {
        Springward x = new Springward();
        for (int c = 0; c < 10; c++) {
            x.rock(c, 40);
            x.lead(c, NONE);
        }
        x.well(0, 10000);
        return x;
    }

    private static void years(Springward x, int years, int rain) {
        for (int left = years; left > 0; left -= 20) {
            x.pass(Math.min(left, 20), rain);
        }
    }

    private static void fortyYearsToCome() {
        Springward x = slow();
        for (int year = 1; year <= 40; year++) {
            x.pass(1, 1);
            Check.due("nothing comes in the year " + year, 0, x, s -> s.flow(0));
        }
        for (int y = 0; y < 60; y++) {
            int year = y;
            x.pass(1, 1);
            Check.due("a unit from each cell, of the year " + y, 10, x, s -> s.flow(0));
            Check.due("it fell forty years ahead, in the year " + y, year, x, s -> s.flow(3));
        }
    }

    private static void heldAndLedOn() {
        Springward x = new Springward();
        x.pass(1, 100);
        long came = 0;
        int[] held = new int[10];
        for (int c = 0; c < 10; c++) {
            held[c] = 100;
        }
        for (int year = 2; year < 40; year++) {
            x.pass(1, 0);
            came += held[0] / 5;
            for (int c = 0; c < 10; c++) {
                held[c] += (c < 9 ? held[c + 1] / 5 : 0) - held[c] / 5;
                int cell = c;
                Check.due("held by " + c + " in the year " + year, held[c], x, s -> s.cellOf(cell, 0));
            }
            Check.due("all that came by the year " + year, came, x, s -> s.sum(2));
        }
    }

    private static void nitrateByTheLand() {
        int[] nitrate = {1, 3, 10};
        for (int land = FOREST; land <= FIELD; land++) {
            Springward x = slow();
            x.land(0, land);
            x.pass(3, 5);
            x.bottle(0, 15);
            Check.due("nitrate of the rain on " + land, 15 * nitrate[land], x, s -> s.lotOf(0, 2));
        }
    }

    /** As much flows as falls: each unit stays in a cell for as many years as that holds water. */
    private static void spillsDecadesBehind() {
        Springward x = slow();
        x.rock(9, 20);
        x.rock(0, 20);
        x.lead(9, 0);
        years(x, 100, 1);
        Check.due("the travel", 40, x, s -> s.cellOf(9, 4));
        x.spill(9, 6);
        for (int year = 0; year < 40; year++) {
            x.pass(1, 1);
            Check.due("not yet, " + year + " years behind", 0, x, s -> s.flow(2));
        }
        x.pass(1, 1);
        Check.due("forty years behind", 64, x, s -> s.flow(2));
        x.pass(1, 1);
        Check.due("a year more behind", 0, x, s -> s.flow(2));
    }

    private static void fieldsTurnedToGrass() {
        Springward x = slow();
        x.land(0, FIELD);
        x.contract(0, 3, 250);
        years(x, 5, 2);
        x.bottle(0, 6);
        x.bottle(0, 4);
        Check.due("as grass for three years", 18, x, s -> s.lotOf(0, 2));
        Check.due("as a field behind them", 40, x, s -> s.lotOf(1, 2));
        Check.due("what that cost", 750L, x, s -> s.sum(4));
        Check.due("it is a field all the time", FIELD, x, s -> s.cellOf(0, 2));
    }

    private static void permitsCutByADrought() {
        Springward x = slow();
        x.well(5, 25);
        x.drought(5, 30, 10);
        int[] may = {0, 12, 12, 12, 12, 25, 25, 25};
        for (int i = 0; i < may.length; i++) {
            x.pass(1, 5);
            Check.due("with " + 5 * (i + 1) + " units", may[i], x, s -> s.wellOf(1, 3));
        }
    }

    private static void lotsThatKnowEachPortion() {
        Springward x = new Springward();
        x.well(0, 10000);
        x.pass(6, 20);
        x.bottle(0, 100);
        int known = 0;
        for (int i = 0; i < 60; i++) {
            int cell = i / 6;
            int year = i % 6;
            int units = x.from(0, cell, year);
            Check.due("of cell " + cell + " and year " + year, units, x, s -> s.fromAnew(0, cell, year));
            known += units;
        }
        Check.equal("units whose cell and year are known", "" + known, "100");
    }

    private static void listedOrForbidden() {
        Springward x = slow();
        x.pass(1, 30);
        x.pass(12, 0);
        for (int l = 0; l < 3; l++) {
            int lot = l;
            x.bottle(0, 10);
            x.treat(lot, lot);
            Check.due("with the treatment " + l, lot, x, s -> s.best(lot));
        }
        x.label(0, MINERAL);
        x.label(1, SPRING);
        Check.due("the treatment 0 of a sudden", 1, x, s -> s.forbid(0));
        Check.due("the treatment 1 of a sudden", 1, x, s -> s.forbid(1));
        for (int l = 0; l < 3; l++) {
            int lot = l;
            Check.due("behind that " + l, TABLE, x, s -> s.best(lot));
            Check.due("recalled " + l, lot < 2 ? 1 : 0, x, s -> s.lotOf(lot, 10));
        }
    }

    private static void labelsTrueOrNot() {
        Springward x = slow();
        x.land(0, GRASS);
        x.pass(1, 30);
        for (int lot = 0; lot < 3; lot++) {
            x.bottle(0, 10);
        }
        // It is a year old.
        Check.due("no MINERAL water", false, x, s -> s.label(0, MINERAL));
        Check.due("SPRING water", true, x, s -> s.label(1, SPRING));
        Check.due("TABLE water", true, x, s -> s.label(2, TABLE));
        Check.due("labels that are not true", 1L, x, s -> s.sum(6));
    }

    private static void theVillagesShare() {
        Springward x = slow();
        x.pass(1, 39);
        x.bottle(0, 9);
        x.share(12);
        x.bottle(0, 10);
        Check.due("cents", 129L, x, s -> s.sum(5));
    }

    private static void whenceItCame() {
        Springward x = new Springward();
        x.well(0, 10000);
        x.pass(7, 10);
        x.spill(3, 2);
        years(x, 16, 10);
        int all = x.cellOf(0, 0);
        Check.due("all that is there", 0, x, s -> s.bottle(0, all));
        Check.due("from cell 3 and the year 7", 3007, x, s -> s.whence(0, 2));
        Check.due("ten units at most", "true", x, s -> s.from(0, 3, 7) > 0 && s.from(0, 3, 7) <= 10);
        Check.due("nothing else was spilled", NONE, x, s -> s.whence(0, 3));
    }
}
