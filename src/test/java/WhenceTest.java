/** Promises 22 to 25: inquiries whence water came, and the sums. */
public final class WhenceTest {
    private static final int[] NO_LOTS = {-1, 2, 40, Integer.MIN_VALUE, Integer.MAX_VALUE};
    private static final int[] NO_CELLS = {-1, 10, Integer.MIN_VALUE, Integer.MAX_VALUE};

    private WhenceTest() {
    }

    public static void main(String[] args) {
        promises22And23From();
        promises22And23DripByDrip();
        promises22And23CutDrip();
        promise23FollowsEachUnit();
        promises22And23Refused();
        promise24Whence();
        promise24WhenceInAnyOrder();
        promise24WhenceRefused();
        promise25Sum();
        promise25SumsAgree();
        Check.end();
    }

    private static Springward used() {
        Springward x = new Springward();
        x.well(0, 100);
        x.well(1, 60);
        x.spill(1, 5);
        x.pass(4, 30);
        x.bottle(0, 20);
        x.bottle(1, 30);
        return x;
    }

    private static void refused(String what, String exception, Check.Call call) {
        Check.refused(what, exception, WhenceTest::used, call);
    }

    private static void both(String what, int due, Springward x, int lot, int cell, int year) {
        Check.due("22 " + what, due, x, s -> s.from(lot, cell, year));
        Check.due("23 " + what, due, x, s -> s.fromAnew(lot, cell, year));
    }

    private static void promises22And23From() {
        Springward x = new Springward();
        x.rock(0, 2);
        x.rock(1, 1);
        x.lead(2, 0);
        x.rock(2, 1);
        x.well(0, 10000);
        x.well(1, 10000);
        x.pass(1, 10);
        x.bottle(1, 4);
        // In cell 0 then: 5 of its own of year 0, 6 of cell 1, 10 of cell 2, 10 of its own of year 1.
        x.pass(1, 10);
        Check.due("22 units in the cell", 31, x, s -> s.cellOf(0, 0));
        x.bottle(0, 7);
        both("another lot's", 4, x, 0, 1, 0);
        both("another lot's cell", 0, x, 0, 0, 0);
        both("front", 5, x, 1, 0, 0);
        both("led on", 2, x, 1, 1, 0);
        both("none of it", 0, x, 1, 2, 0);
        both("not yet", 0, x, 1, 0, 1);
        x.bottle(0, 24);
        both("rest", 4, x, 2, 1, 0);
        both("whole", 10, x, 2, 2, 0);
        both("last", 10, x, 2, 0, 1);
        both("gone", 0, x, 2, 0, 0);
        both("another cell", 0, x, 2, 9, 0);
        for (int year : new int[] {-1, -2, 2, 3, 300, 1000, Integer.MIN_VALUE, Integer.MAX_VALUE}) {
            both("year " + year, 0, x, 2, 0, year);
        }
        x.pass(5, 9);
        both("years behind it", 10, x, 2, 0, 1);
        x.lead(2, Springward.NONE);
        both("led elsewhere behind it", 10, x, 2, 2, 0);
    }

    /** Water of one cell and year comes to a lot in many portions, one unit alone among them. */
    private static void promises22And23DripByDrip() {
        Springward x = new Springward();
        x.rock(0, 40);
        x.rock(1, 10);
        x.lead(2, Springward.NONE);
        x.well(0, 10000);
        x.well(1, 10000);
        x.pass(1, 20);
        x.pass(1, 5);
        x.pass(3, 0);
        // In cell 0 then: 20 of its own, 2 of cell 1, 5 of its own, and 2, 2 and 1 of cell 1.
        Check.due("22 units in the cell", 32, x, s -> s.cellOf(0, 0));
        x.bottle(0, 21);
        both("own", 20, x, 0, 0, 0);
        both("a part of the first drip", 1, x, 0, 1, 0);
        x.bottle(0, 9);
        both("the rest of it, and of others", 1 + 2 + 1, x, 1, 1, 0);
        both("own between them", 5, x, 1, 0, 1);
        x.bottle(0, 2);
        both("the last two", 2, x, 2, 1, 0);
        x.bottle(1, 1);
        both("a unit alone", 1, x, 3, 1, 0);
        x.bottle(1, 17);
        both("what never went on", 20 - 7 - 1, x, 4, 1, 0);
        both("and what fell behind it", 5, x, 4, 1, 1);
    }

    /** A drip of which a part was bottled stays in front, and others come behind it. */
    private static void promises22And23CutDrip() {
        Springward x = new Springward();
        x.rock(0, 40);
        x.rock(1, 10);
        x.lead(2, Springward.NONE);
        x.well(0, 10000);
        x.pass(1, 20);
        x.pass(1, 5);
        x.bottle(0, 21);
        both("a part of the drip", 1, x, 0, 1, 0);
        x.pass(3, 0);
        Check.due("22 units in the cell", 27 - 21 + 5, x, s -> s.cellOf(0, 0));
        x.bottle(0, 11);
        both("its rest and all drips behind it", 1 + 2 + 2 + 1, x, 1, 1, 0);
        both("the first lot still", 1, x, 0, 1, 0);
    }

    /** All units of each lot, by cell and year, are as many as the lot has. */
    private static void promise23FollowsEachUnit() {
        Springward x = new Springward();
        for (int c = 0; c < 10; c++) {
            x.rock(c, 1 + c % 3);
        }
        x.lead(9, 4);
        x.lead(6, 1);
        x.well(0, 10000);
        x.well(4, 10000);
        x.pass(3, 13);
        x.bottle(1, 17);
        x.pass(1, 0);
        x.bottle(0, x.cellOf(0, 0) - 3);
        x.pass(1, 7);
        x.bottle(0, 15);
        int[] units = {17, x.lotOf(1, 1), 15};
        for (int l = 0; l < 3; l++) {
            int all = 0;
            for (int cell = 0; cell < 10; cell++) {
                for (int year = 0; year < 5; year++) {
                    all += x.fromAnew(l, cell, year);
                }
            }
            Check.equal("23 units of lot " + l, "" + all, "" + units[l]);
        }
        for (int cell = 0; cell < 10; cell++) {
            for (int year = 0; year < 5; year++) {
                both("cell " + cell + " year " + year, x.from(1, cell, year), x, 1, cell, year);
            }
        }
    }

    private static void promises22And23Refused() {
        for (int lot : NO_LOTS) {
            refused("22 lot " + lot, Check.INDEX, s -> s.from(lot, 0, 0));
            refused("23 lot " + lot, Check.INDEX, s -> s.fromAnew(lot, 0, 0));
        }
        for (int cell : NO_CELLS) {
            refused("22 cell " + cell, Check.INDEX, s -> s.from(0, cell, 0));
            refused("23 cell " + cell, Check.INDEX, s -> s.fromAnew(0, cell, 0));
            refused("22 cell and year " + cell, Check.INDEX, s -> s.from(0, cell, -1));
            refused("23 cell and year " + cell, Check.INDEX, s -> s.fromAnew(0, cell, -1));
        }
    }

    private static void promise24Whence() {
        Springward x = new Springward();
        for (int c = 0; c < 5; c++) {
            x.lead(c, Springward.NONE);
            x.rock(c, 1);
        }
        x.rock(0, 40);
        x.well(0, 10000);
        x.lead(4, 0);
        x.lead(3, 0);
        x.rock(3, 10);
        x.rock(4, 10);
        x.spill(4, 2);
        x.spill(3, 2);
        x.spill(3, 7);
        x.pass(1, 10);
        x.spill(0, 2);
        x.spill(0, 4);
        x.pass(1, 10);
        // In cell 0 now: 10 of its own, one of cell 3 and one of cell 4 of year 0, and 10 of year 1.
        x.rock(3, 40);
        x.rock(4, 40);
        Check.due("24 units", 22, x, s -> s.cellOf(0, 0));
        x.bottle(0, 10);
        Check.due("24 none", Springward.NONE, x, s -> s.whence(0, 2));
        x.bottle(0, 12);
        Check.due("24 earliest, lowest", 3000, x, s -> s.whence(1, 2));
        Check.due("24 a compound of one", 3000, x, s -> s.whence(1, 7));
        Check.due("24 a later year of a lower cell", 1, x, s -> s.whence(1, 4));
        Check.due("24 not in it", Springward.NONE, x, s -> s.whence(1, 0));
        Springward y = new Springward();
        y.lead(9, 0);
        y.lead(1, Springward.NONE);
        y.rock(0, 40);
        y.well(0, 10000);
        y.rock(9, 7);
        y.pass(1, 0);
        y.spill(9, 0);
        y.pass(1, 7);
        y.spill(0, 0);
        y.pass(1, 7);
        y.pass(1, 0);
        y.bottle(0, 10);
        Check.due("24 year and cell together", 9001, y, s -> s.whence(0, 0));
    }

    private static void promise24WhenceInAnyOrder() {
        whences("all", new int[] {21 + 4}, 1000);
        whences("its own of year 0 alone", new int[] {3}, Springward.NONE);
        whences("lower cell ahead of a higher one", new int[] {5, 3}, 1000, 1000);
        whences("higher cell ahead of a lower one", new int[] {6, 8}, 1000, 2000);
        whences("higher cell alone", new int[] {6, 3}, 1000, 4000);
        whences("younger water ahead of older", new int[] {9, 4}, 1000, 2000);
        whences("younger water alone", new int[] {9, 3}, 1000, 1);
        whences("the rest", new int[] {15, 10}, 1000, 5000);
    }

    private static void whences(String what, int[] units, int... due) {
        Springward x = manyWaters();
        for (int l = 0; l < units.length; l++) {
            int lot = l;
            x.bottle(0, units[l]);
            Check.due("24 " + what + ", lot " + l, due[l], x, s -> s.whence(lot, 6));
        }
    }

    /**
     * In cell 0, by cell and year, 3 units each but one of the last: 0 of 0, 1 of 0, 4 of 0, 0 of 1,
     * 2 of 0, 1 of 1, 4 of 1, 2 of 1, 5 of 0; with the compound 6 all of year 0 but that of cell 0,
     * and that of cell 0 of year 1.
     */
    private static Springward manyWaters() {
        Springward x = new Springward();
        x.rock(0, 40);
        x.rock(1, 1);
        x.rock(2, 1);
        x.lead(4, 0);
        x.well(0, 10000);
        for (int cell = 1; cell < 10; cell++) {
            x.spill(cell, 6);
        }
        x.pass(1, 3);
        x.rock(4, 1);
        x.spill(0, 6);
        x.pass(1, 3);
        x.pass(1, 0);
        x.pass(1, 0);
        return x;
    }

    private static void promise24WhenceRefused() {
        for (int lot : NO_LOTS) {
            refused("24 lot " + lot, Check.INDEX, s -> s.whence(lot, 5));
        }
        for (int compound : new int[] {-1, 8, 37, Integer.MIN_VALUE, Integer.MAX_VALUE}) {
            refused("24 compound " + compound, Check.INDEX, s -> s.whence(0, compound));
        }
    }

    private static void promise25Sum() {
        Springward x = new Springward();
        x.rock(0, 1);
        x.land(0, Springward.FIELD);
        x.contract(0, 3, 11);
        x.well(0, 1000);
        x.share(4);
        x.pass(1, 50);
        x.bottle(0, 10);
        x.bottle(0, 15);
        x.pass(1, 3);
        x.label(0, Springward.MINERAL);
        x.label(1, Springward.TABLE);
        long[] due = {530, 530 - 25 - 25, 25, 25, 22, 100, 1};
        for (int q = 0; q < 7; q++) {
            int what = q;
            Check.due("25 what " + q, due[q], x, s -> s.sum(what));
        }
        for (int what : new int[] {-1, 7, Integer.MIN_VALUE, Integer.MAX_VALUE}) {
            refused("25 what " + what, Check.ARGUMENT, s -> s.sum(what));
        }
    }

    /** What fell is in the cells, or came to the spring, or was bottled. */
    private static void promise25SumsAgree() {
        Springward x = new Springward();
        for (int c = 0; c < 10; c++) {
            x.rock(c, 1);
        }
        x.well(3, 10000);
        for (int i = 0; i < 14; i++) {
            x.pass(20, 1000);
            x.bottle(0, 1000);
            Check.due("25 together " + i, 200000L * (i + 1), x, s -> s.sum(1) + s.sum(2) + s.sum(3));
            Check.due("25 fell " + i, 200000L * (i + 1), x, s -> s.sum(0));
        }
        // Cell 9 has the rain of a year, cell 8 that of two cells, and cell 0 that of all.
        x.pass(20, 1000);
        Check.due("25 the most", 3000000L, x, s -> s.sum(0));
        Check.due("25 the most that flows", 10000, x, s -> s.flow(0));
    }
}
