/** The sentences of the document ahead of its promises, each with a test of its own. */
public final class TermsTest {
    private static final int FOREST = Springward.FOREST;
    private static final int GRASS = Springward.GRASS;
    private static final int FIELD = Springward.FIELD;
    private static final int MINERAL = Springward.MINERAL;
    private static final int SPRING = Springward.SPRING;
    private static final int TABLE = Springward.TABLE;
    private static final int NONE = Springward.NONE;

    private TermsTest() {
    }

    public static void main(String[] args) {
        Doc.under("What it is");
        Doc.saysNoAnswer("Water that takes forty years to come: a mountain of cells");
        usedFor512Calls();
        laterCallsAreFree();
        Doc.under("Terms");
        foundOnceMore();
        yearsFrom0To300();
        wholeUnits();
        roundedDown();
        Doc.under("The mountain");
        theCells();
        theRock();
        theLand();
        theWayDown();
        noPortionAtFirst();
        whatAPortionIs();
        partsAreOfTheSameKind();
        takenFromTheFront();
        theTravel();
        Doc.under("A year");
        inThisOrder();
        byRisingCells();
        whatACellLeadsOn();
        theRain();
        noneWaitAnyMore();
        withoutRainTheyWait();
        whatAContractCosts();
        aContractEnds();
        theYearIsOneMore();
        theSpringsFlow();
        Doc.saysNoAnswer("Wells, lots");
        theWells();
        theLimitsOfADrought();
        asLongAsTheCellHasLess();
        theLots();
        theAgeOfAUnit();
        theTreatments();
        mineralWater();
        springWater();
        tableWater();
        severalKinds();
        forbiddenFromThenOn();
        labelledOnce();
        trueAsItIsLabelled();
        recalledAsItIsForbidden();
        theVillage();
        whichException();
        firstListedException();
        refusedCallsChangeNothing();
        theConstants();
        Doc.under("Not promised");
        Doc.saysNoAnswer("How the state is held inside the object is free");
        Doc.saysNoAnswer("Use of one object from several threads");
        Doc.saysNoAnswer("Nothing is promised beyond the answers and state changes");
        Doc.end();
    }

    /** Cell 0 alone leads to the spring, and as it holds water for 40 years, it keeps 39 units. */
    private static Springward quiet() {
        Springward x = new Springward();
        x.rock(0, 40);
        x.lead(1, NONE);
        x.well(0, 10000);
        return x;
    }

    private static void usedFor512Calls() {
        Doc.says("An object is used for at most 512 calls after it has been made;");
        Springward x = new Springward();
        x.rock(0, 40);
        x.well(0, 10000);
        for (int year = 1; year <= 299; year++) {
            int due = year;
            Check.due("512 calls, year " + year, due, x, s -> s.pass(1, 1));
        }
        for (int l = 0; l < 40; l++) {
            int lot = l;
            Check.due("512 calls, lot " + l, lot, x, s -> s.bottle(0, 1));
        }
        // 341 calls so far, and 170 more ahead of the last one.
        for (int i = 0; i < 170; i++) {
            Check.due("512 calls, lot again", 1, x, s -> s.lotOf(0, 1));
        }
        Check.due("the 512th call", 300, x, s -> s.pass(1, 1));
    }

    private static void laterCallsAreFree() {
        Doc.says("what later calls answer is free.");
        Springward x = Scene.FULL.make();
        for (int i = 0; i < 600; i++) {
            x.fromAnew(i % 40, i % 10, i % 20);
        }
        String answer = Check.answer(x, s -> s.year());
        Check.equal("a later call answers", "" + !answer.startsWith("throws"), "true");
    }

    private static void foundOnceMore() {
        Doc.says("Each portion of a lot is found once more by following the water alone.");
        Springward x = new Springward();
        for (int c = 0; c < 10; c++) {
            x.rock(c, c == 0 ? 40 : 1 + c % 4);
        }
        x.well(0, 10000);
        x.pass(4, 7);
        x.bottle(0, 11);
        x.pass(1, 3);
        x.bottle(0, 30);
        int[] units = {11, 30};
        for (int l = 0; l < 2; l++) {
            int lot = l;
            int found = 0;
            for (int i = 0; i < 50; i++) {
                int cell = i / 5;
                int year = i % 5;
                int portion = x.from(lot, cell, year);
                found += portion;
                Check.due("found once more " + l + " " + i, portion, x, s -> s.fromAnew(lot, cell, year));
            }
            Check.equal("each unit of lot " + l, "" + found, "" + units[l]);
        }
    }

    private static void yearsFrom0To300() {
        Doc.says("Years are counted from 0, at most 300.");
        Springward x = quiet();
        Check.due("first year", 0, x, s -> s.year());
        x.pass(1, 2);
        for (int i = 0; i < 14; i++) {
            x.pass(20, 0);
        }
        x.pass(18, 0);
        x.pass(1, 2);
        Check.due("last year", 300, x, s -> s.year());
        Check.due("none behind it", Check.STATE, x, s -> s.pass(1, 0));
        x.bottle(0, 4);
        Check.due("rain of the first year", 2, x, s -> s.from(0, 0, 0));
        Check.due("rain of the last year", 2, x, s -> s.from(0, 0, 299));
        Check.due("followed from the first year", 2, x, s -> s.fromAnew(0, 0, 0));
        Check.due("followed from the last year", 2, x, s -> s.fromAnew(0, 0, 299));
        Check.due("no rain in the year 300", 0, x, s -> s.from(0, 0, 300));
        Check.due("bottled in the year 300", 300, x, s -> s.lotOf(0, 3));
        inTheLastYear();
    }

    /** But for another year, all may be called in the year 300. */
    private static void inTheLastYear() {
        Springward x = Scene.LAST.make();
        Check.due("a well in the last year", 3, x, s -> s.well(8, 20));
        Check.due("a lot in the last year", 5, x, s -> s.bottle(3, 1));
        Check.due("a treatment in the last year", 2, x, s -> s.treat(5, 1));
        Check.due("a label in the last year", true, x, s -> s.label(5, TABLE));
        Check.due("forbidden in the last year", 0, x, s -> s.forbid(5));
        Check.due("land in the last year", FIELD, x, s -> s.land(5, FIELD));
        Check.due("a contract in the last year", "nothing", x, Check.deed(s -> s.contract(5, 30, 1)));
        Check.due("a spill in the last year", 4, x, s -> s.spill(9, 2));
        Check.due("rock in the last year", 5, x, s -> s.rock(9, 6));
        Check.due("a lead in the last year", 8, x, s -> s.lead(9, 0));
        Check.due("a share in the last year", 3, x, s -> s.share(4));
        Check.due("a drought in the last year", "nothing", x, Check.deed(s -> s.drought(0, 1, 1)));
    }

    private static void wholeUnits() {
        Doc.says("Units are whole;");
        Springward x = new Springward();
        x.pass(1, 1);
        x.pass(20, 0);
        for (int c = 0; c < 10; c++) {
            int cell = c;
            Check.due("no part of a unit flows from " + c, 1, x, s -> s.cellOf(cell, 0));
        }
    }

    private static void roundedDown() {
        Doc.says("all divisions are rounded down, but for floats.");
        Springward x = new Springward();
        x.well(0, 9);
        x.pass(1, 9);
        x.pass(1, 0);
        Check.due("9 by 5 years", 1, x, s -> s.flow(0));
        x.drought(0, 10, 0);
        Check.due("the half of 9", 4, x, s -> s.wellOf(0, 3));
        Springward y = quiet();
        y.pass(1, 1);
        y.pass(1, 2);
        y.bottle(0, 3);
        Check.due("4 by 3 as floats", 4f / 3f, y, s -> s.age(0));
    }

    private static void theCells() {
        Doc.says("There are the cells 0 to 9.");
        Springward x = new Springward();
        x.pass(1, 1);
        Check.due("ten cells", 10L, x, s -> s.sum(0));
        Check.due("the first", 1, x, s -> s.cellOf(0, 0));
        Check.due("the last", 1, x, s -> s.cellOf(9, 0));
        Check.due("below", Check.INDEX, x, s -> s.cellOf(-1, 0));
        Check.due("above", Check.INDEX, x, s -> s.cellOf(10, 0));
    }

    private static void theRock() {
        Doc.says("Each has rock that holds water for 1 to 40 years, 5 at first;");
        Springward x = new Springward();
        for (int c = 0; c < 10; c++) {
            int cell = c;
            Check.due("5 years at first " + c, 5, x, s -> s.cellOf(cell, 1));
            Check.due("not 0 years " + c, Check.ARGUMENT, x, s -> s.rock(cell, 0));
            Check.due("not 41 years " + c, Check.ARGUMENT, x, s -> s.rock(cell, 41));
            Check.due("1 year " + c, 5, x, s -> s.rock(cell, 1));
            Check.due("40 years " + c, 1, x, s -> s.rock(cell, 40));
        }
    }

    private static void theLand() {
        Doc.says("land, FOREST, GRASS or FIELD, FOREST at first;");
        Springward x = new Springward();
        for (int c = 0; c < 10; c++) {
            int cell = c;
            Check.due("forest at first " + c, FOREST, x, s -> s.cellOf(cell, 2));
            Check.due("no land below " + c, Check.ARGUMENT, x, s -> s.land(cell, FOREST - 1));
            Check.due("no land above " + c, Check.ARGUMENT, x, s -> s.land(cell, FIELD + 1));
            Check.due("field " + c, FOREST, x, s -> s.land(cell, FIELD));
            Check.due("grass " + c, FIELD, x, s -> s.land(cell, GRASS));
            Check.due("forest " + c, GRASS, x, s -> s.land(cell, FOREST));
        }
    }

    private static void theWayDown() {
        Doc.says("and it leads to a cell with a lower number, or to the spring: at first each to the cell"
                + " with the next lower number, the cell 0 to the spring.");
        Springward x = new Springward();
        for (int c = 0; c < 10; c++) {
            int cell = c;
            Check.due("at first " + c, c - 1, x, s -> s.cellOf(cell, 3));
            Check.due("not to itself " + c, Check.ARGUMENT, x, s -> s.lead(cell, cell));
            Check.due("to the spring " + c, c - 1, x, s -> s.lead(cell, NONE));
            Check.due("to the next lower one " + c, NONE, x, s -> s.lead(cell, cell - 1));
        }
        for (int c = 0; c < 9; c++) {
            int cell = c;
            Check.due("not to the next higher one " + c, Check.ARGUMENT, x, s -> s.lead(cell, cell + 1));
        }
    }

    private static void noPortionAtFirst() {
        Doc.says("A cell has a row of portions, none at first.");
        Springward x = new Springward();
        for (int c = 0; c < 10; c++) {
            int cell = c;
            Check.due("no units " + c, 0, x, s -> s.cellOf(cell, 0));
            Check.due("no front " + c, NONE, x, s -> s.cellOf(cell, 6));
        }
        Check.due("nothing flows from dry cells", 1, x, s -> s.pass(1, 0));
        Check.due("no flow", 0, x, s -> s.flow(0));
    }

    private static void whatAPortionIs() {
        Doc.says("A portion is of some units that fell in one year on one cell, with nitrate for each unit,"
                + " and a set of the compounds 0 to 7;");
        Springward x = quiet();
        x.land(0, FIELD);
        for (int compound = 0; compound < 8; compound++) {
            x.spill(0, compound);
        }
        x.pass(1, 13);
        x.bottle(0, 13);
        Check.due("units", 13, x, s -> s.from(0, 0, 0));
        Check.due("nitrate for each unit", 130, x, s -> s.lotOf(0, 2));
        Check.due("all compounds", 255, x, s -> s.lotOf(0, 4));
        Check.due("compound 0", 0, x, s -> s.whence(0, 0));
        Check.due("compound 7", 0, x, s -> s.whence(0, 7));
    }

    private static void partsAreOfTheSameKind() {
        Doc.says("parts of it are portions of the same kind.");
        Springward x = new Springward();
        x.rock(4, 40);
        x.lead(5, NONE);
        x.land(4, FIELD);
        x.spill(4, 6);
        x.well(4, 100);
        x.pass(1, 30);
        x.pass(1, 0);
        x.bottle(0, 1);
        x.bottle(0, 12);
        x.bottle(0, 17);
        int[] units = {1, 12, 17};
        for (int l = 0; l < 3; l++) {
            int lot = l;
            Check.due("nitrate of part " + l, 10 * units[l], x, s -> s.lotOf(lot, 2));
            Check.due("compounds of part " + l, 64, x, s -> s.lotOf(lot, 4));
            Check.due("cell and year of part " + l, 4000, x, s -> s.whence(lot, 6));
            Check.due("age of part " + l, 2f, x, s -> s.age(lot));
        }
    }

    /** In cell 0: 10 units of each of the years 0, 1 and 2. */
    private static Springward threeRains() {
        Springward x = quiet();
        x.pass(3, 10);
        return x;
    }

    private static void takenFromTheFront() {
        Doc.says("Water that is taken from a cell is taken from the front of its row: as many units as told,"
                + " the last portion perhaps in part, the rest of which stays in front.");
        // How many are taken, and then: the front's year, and how many of each year the lot has.
        int[][] due = {{1, 0, 1, 0, 0}, {9, 0, 9, 0, 0}, {10, 1, 10, 0, 0}, {11, 1, 10, 1, 0},
            {19, 1, 10, 9, 0}, {20, 2, 10, 10, 0}, {21, 2, 10, 10, 1}, {29, 2, 10, 10, 9},
            {30, NONE, 10, 10, 10}};
        for (int[] row : due) {
            Springward x = threeRains();
            x.bottle(0, row[0]);
            Check.due("what stays of " + row[0], 30 - row[0], x, s -> s.cellOf(0, 0));
            Check.due("front behind " + row[0], row[1], x, s -> s.cellOf(0, 6));
            for (int y = 0; y < 3; y++) {
                int year = y;
                Check.due(row[0] + ", of year " + y, row[2 + y], x, s -> s.from(0, 0, year));
            }
            if (row[0] < 30) {
                x.bottle(0, 30 - row[0]);
                for (int y = 0; y < 3; y++) {
                    int year = y;
                    Check.due("the rest behind " + row[0] + ", of year " + y, 10 - row[2 + y], x,
                            s -> s.from(1, 0, year));
                }
            }
        }
    }

    private static void theTravel() {
        Doc.says("The travel from a cell are the years for which its rock holds water, and those of the cells"
                + " behind it on the way to the spring, together.");
        Springward x = new Springward();
        for (int c = 0; c < 10; c++) {
            x.rock(c, 40);
        }
        Check.due("the longest", 400, x, s -> s.cellOf(9, 4));
        x.lead(9, 0);
        Check.due("a shorter way", 80, x, s -> s.cellOf(9, 4));
        x.rock(0, 3);
        Check.due("rock on the way", 43, x, s -> s.cellOf(9, 4));
        x.rock(8, 1);
        Check.due("no rock beside the way", 43, x, s -> s.cellOf(9, 4));
        x.lead(9, NONE);
        x.rock(9, 1);
        Check.due("the shortest", 1, x, s -> s.cellOf(9, 4));
    }

    private static void inThisOrder() {
        Doc.says("As a year passes, with some rain, in this order:");
        Springward x = new Springward();
        for (int c = 0; c < 10; c++) {
            x.rock(c, 1);
        }
        x.land(9, FIELD);
        x.contract(9, 1, 8);
        x.pass(1, 6);
        Check.due("no rain flows in its own year", 0, x, s -> s.flow(0));
        Check.due("the contract is paid", 8L, x, s -> s.sum(4));
        for (int i = 0; i < 8; i++) {
            x.pass(1, 0);
            int year = i;
            Check.due("flow of forests " + i, 6, x, s -> s.flow(1));
            Check.due("year of the flow " + i, 0, x, s -> s.flow(3));
            Check.due("years so far " + i, year + 2, x, s -> s.year());
        }
        x.pass(1, 0);
        Check.due("the rain of cell 8", 6, x, s -> s.flow(1));
        x.pass(1, 0);
        Check.due("it fell ahead of the contract's end", 18, x, s -> s.flow(1));
    }

    private static void byRisingCells() {
        Doc.says("1. By rising cells: what the cell had ahead of this step, all units, divided by the years for"
                + " which it holds water, is taken from it, and comes, portion by portion, behind the row of"
                + " the cell to which it leads, or to the spring.");
        Springward x = new Springward();
        for (int c = 0; c < 10; c++) {
            x.rock(c, 1);
        }
        x.lead(9, 4);
        x.lead(5, 2);
        x.pass(1, 1);
        x.well(2, 100);
        x.pass(1, 0);
        int[] units = {1, 1, 2, 1, 1, 1, 1, 1, 0, 0};
        for (int c = 0; c < 10; c++) {
            int cell = c;
            Check.due("one cell on, cell " + c, units[c], x, s -> s.cellOf(cell, 0));
        }
        Check.due("one unit came to the spring", 1, x, s -> s.flow(0));
        // Cell 3 leads on ahead of cell 5.
        x.bottle(0, 1);
        Check.due("the lower cell's water is ahead", 1, x, s -> s.from(0, 3, 0));
        x.bottle(0, 1);
        Check.due("the higher cell's water is behind", 1, x, s -> s.from(1, 5, 0));
    }

    private static void whatACellLeadsOn() {
        Doc.says("1. By rising cells: what the cell had ahead of this step, all units, divided by the years");
        // Units, years, and what flows then.
        int[][] due = {{0, 1, 0}, {1, 1, 1}, {1, 2, 0}, {6, 7, 0}, {7, 7, 1}, {13, 7, 1}, {14, 7, 2},
            {39, 40, 0}, {40, 40, 1}, {1000, 40, 25}, {1000, 1, 1000}};
        for (int[] row : due) {
            Springward x = new Springward();
            x.rock(0, row[1]);
            x.lead(1, NONE);
            x.pass(1, row[0]);
            x.pass(1, 0);
            Check.due(row[0] + " units by " + row[1] + " years, what stays", row[0] - row[2], x,
                    s -> s.cellOf(0, 0));
            // By 5 years from cell 1, too, and nothing from any other cell.
            Check.due(row[0] + " units by " + row[1] + " years", row[2] + row[0] / 5, x, s -> s.flow(0));
        }
    }

    private static void theRain() {
        Doc.says("2. Each cell gets the rain, in units, behind its row, as a portion of the year that passes"
                + " (which year() told ahead of it), if it is above 0: with the nitrate 1 for FOREST, 3 for"
                + " GRASS, 10 for FIELD, but 3 for a FIELD with a contract, and all compounds that were"
                + " spilled on it since it rained last;");
        Springward x = quiet();
        x.pass(5, 0);
        Check.due("no portion of rain 0", NONE, x, s -> s.cellOf(0, 6));
        int[] lands = {FOREST, GRASS, FIELD, FIELD};
        int[] nitrate = {1, 3, 10, 3};
        for (int i = 0; i < 4; i++) {
            int year = i + 5;
            x.land(0, lands[i]);
            if (i == 3) {
                x.contract(0, 1, 0);
            }
            x.spill(0, i);
            x.spill(0, 7);
            Check.due("the year ahead of rain " + i, year, x, s -> s.year());
            x.pass(1, 1);
        }
        Check.due("its first year", 5, x, s -> s.cellOf(0, 6));
        for (int i = 0; i < 4; i++) {
            int lot = i;
            x.bottle(0, 1);
            Check.due("behind the row " + i, 1, x, s -> s.from(lot, 0, lot + 5));
            Check.due("nitrate " + i, nitrate[i], x, s -> s.lotOf(lot, 2));
            Check.due("compounds " + i, 1 << i | 128, x, s -> s.lotOf(lot, 4));
        }
    }

    private static void noneWaitAnyMore() {
        Doc.says("then none of these wait any more.");
        Springward x = quiet();
        x.spill(0, 2);
        x.spill(5, 3);
        x.pass(2, 5);
        Check.due("none waits in cell 0", 1, x, s -> s.spill(0, 0));
        Check.due("none waits in cell 5", 1, x, s -> s.spill(5, 0));
        x.bottle(0, 5);
        x.bottle(0, 5);
        Check.due("in the first rain", 4, x, s -> s.lotOf(0, 4));
        Check.due("not in the second one", 0, x, s -> s.lotOf(1, 4));
    }

    private static void withoutRainTheyWait() {
        Doc.says("Without rain they wait on.");
        Springward x = quiet();
        x.spill(0, 2);
        x.pass(20, 0);
        Check.due("still there", 6, x, s -> s.spill(0, 1));
        x.rock(0, 6);
        x.land(0, FIELD);
        x.contract(0, 1, 1);
        x.lead(9, 0);
        x.drought(0, 1, 0);
        x.share(0);
        Check.due("still there, whatever was called", 6, x, s -> s.spill(0, 1));
        x.pass(1, 2);
        Check.due("more of it", 8, x, s -> s.spill(0, 3));
        x.drought(0, 0, 0);
        x.bottle(0, 2);
        Check.due("in the rain of the year 20", 20, x, s -> s.whence(0, 2));
        Check.due("bottling takes nothing of what waits", 9, x, s -> s.spill(0, 0));
    }

    private static void whatAContractCosts() {
        Doc.says("3. Each contract costs its pay, and has a year less;");
        Springward x = new Springward();
        for (int c = 0; c < 3; c++) {
            x.land(c, FIELD);
        }
        x.contract(0, 30, 0);
        x.contract(1, 30, 1);
        x.contract(2, 30, 1000);
        Check.due("nothing ahead of the year", 0L, x, s -> s.sum(4));
        x.pass(1, 0);
        Check.due("a year", 1001L, x, s -> s.sum(4));
        Check.due("a year less", 29, x, s -> s.cellOf(2, 5));
        x.pass(2, 5);
        Check.due("three years", 3003L, x, s -> s.sum(4));
        Check.due("three years less", 27, x, s -> s.cellOf(0, 5));
    }

    private static void aContractEnds() {
        Doc.says("without years it ends.");
        Springward x = new Springward();
        x.land(3, FIELD);
        x.contract(3, 2, 7);
        x.pass(1, 0);
        Check.due("it still runs", Check.STATE, x, s -> s.land(3, GRASS));
        Check.due("no other one yet", Check.STATE, x, Check.deed(s -> s.contract(3, 1, 1)));
        x.pass(1, 0);
        Check.due("no years", 0, x, s -> s.cellOf(3, 5));
        x.pass(5, 0);
        Check.due("it costs nothing any more", 14L, x, s -> s.sum(4));
        Check.due("another one", "nothing", x, Check.deed(s -> s.contract(3, 1, 1)));
        x.pass(2, 0);
        Check.due("another one's cost", 15L, x, s -> s.sum(4));
        Check.due("other land", FIELD, x, s -> s.land(3, GRASS));
    }

    private static void theYearIsOneMore() {
        Doc.says("The year is 1 more, and no well has taken anything in it.");
        Springward x = quiet();
        for (int w = 1; w < 6; w++) {
            x.well(0, 3);
        }
        x.pass(1, 39);
        for (int w = 0; w < 6; w++) {
            int well = w;
            x.bottle(w, 3);
            Check.due("what it took " + w, 3, x, s -> s.wellOf(well, 2));
        }
        Check.due("a year more", 2, x, s -> s.pass(1, 0));
        for (int w = 0; w < 6; w++) {
            int well = w;
            Check.due("nothing yet " + w, 0, x, s -> s.wellOf(well, 2));
            Check.due("as much once more " + w, 6 + well, x, s -> s.bottle(well, 3));
        }
    }

    private static void theSpringsFlow() {
        Doc.says("The spring's flow is what came to it in the year that passed last.");
        Springward x = new Springward();
        Check.due("no year yet", 0, x, s -> s.flow(0));
        x.rock(0, 1);
        for (int c = 1; c < 10; c++) {
            x.rock(c, 40);
        }
        x.land(0, FIELD);
        x.pass(1, 10);
        x.land(0, FOREST);
        x.pass(1, 20);
        Check.due("flow of the first rain", 10, x, s -> s.flow(0));
        Check.due("its nitrate", 100, x, s -> s.flow(1));
        Check.due("refused", Check.ARGUMENT, x, s -> s.pass(0, 0));
        Check.due("flow as it was", 10, x, s -> s.flow(0));
        x.pass(3, 3);
        // The other cells have 39 units at most, of which none flows.
        Check.due("flow of the last of three years", 3, x, s -> s.flow(0));
        Check.due("its year", 3, x, s -> s.flow(3));
        x.pass(2, 0);
        Check.due("none in the last of two years", 0, x, s -> s.flow(0));
        Check.due("no nitrate", 0, x, s -> s.flow(1));
        Check.due("no year", NONE, x, s -> s.flow(3));
        Check.due("all that came", 10L + 20 + 9, x, s -> s.sum(2));
    }

    private static void theWells() {
        Doc.says("Wells are numbered from 0, at most 6: each in a cell, with a permit, in units a year.");
        Springward x = new Springward();
        Check.due("no well", Check.INDEX, x, s -> s.wellOf(0, 0));
        for (int w = 0; w < 6; w++) {
            int well = w;
            Check.due("number " + w, well, x, s -> s.well(9 - well, 100 * well));
        }
        Check.due("no seventh", Check.STATE, x, s -> s.well(0, 0));
        for (int w = 0; w < 6; w++) {
            int well = w;
            Check.due("cell " + w, 9 - w, x, s -> s.wellOf(well, 0));
            Check.due("permit " + w, 100 * w, x, s -> s.wellOf(well, 1));
        }
        Check.due("no well 6", Check.INDEX, x, s -> s.wellOf(6, 0));
        x.pass(1, 1000);
        x.bottle(1, 60);
        Check.due("more than its permit", Check.STATE, x, s -> s.bottle(1, 41));
        Check.due("its permit", 1, x, s -> s.bottle(1, 40));
    }

    private static void theLimitsOfADrought() {
        Doc.says("A drought is told by a cell, and two limits, the second one at most the first one;");
        Springward x = quiet();
        x.pass(1, 30);
        Check.due("the second one above", Check.ARGUMENT, x, Check.deed(s -> s.drought(0, 30, 31)));
        Check.due("none of both", 10000, x, s -> s.wellOf(0, 3));
        Check.due("both alike", "nothing", x, Check.deed(s -> s.drought(0, 31, 31)));
        Check.due("nothing", 0, x, s -> s.wellOf(0, 3));
        Check.due("the second one below", "nothing", x, Check.deed(s -> s.drought(0, 31, 30)));
        Check.due("the half", 5000, x, s -> s.wellOf(0, 3));
        Check.due("both 0", "nothing", x, Check.deed(s -> s.drought(0, 0, 0)));
        Check.due("all", 10000, x, s -> s.wellOf(0, 3));
    }

    private static void asLongAsTheCellHasLess() {
        Doc.says("0, 0 and the cell 0 at first: as long as that cell has less, as it is asked or bottled, than"
                + " the first limit, each well may take the half of its permit, with less than the second one"
                + " nothing.");
        Springward dry = new Springward();
        dry.well(0, 7);
        Check.due("no drought at first, though all is dry", 7, dry, s -> s.wellOf(0, 3));
        Springward x = quiet();
        x.rock(3, 40);
        x.lead(4, NONE);
        x.well(3, 21);
        x.pass(1, 30);
        x.drought(3, 30, 20);
        Check.due("as much as the first limit", 21, x, s -> s.wellOf(1, 3));
        x.bottle(1, 1);
        Check.due("less than the first limit", 10 - 1, x, s -> s.wellOf(1, 3));
        Check.due("each well", 5000, x, s -> s.wellOf(0, 3));
        Check.due("not more than the half", Check.STATE, x, s -> s.bottle(1, 10));
        Check.due("the half", 1, x, s -> s.bottle(1, 9));
        Check.due("as much as the second limit", 5000, x, s -> s.wellOf(0, 3));
        x.pass(1, 0);
        Check.due("still as much", 20, x, s -> s.cellOf(3, 0));
        x.bottle(1, 1);
        Check.due("less than the second limit", 0, x, s -> s.wellOf(0, 3));
        Check.due("less than the second limit, as it is bottled", Check.STATE, x, s -> s.bottle(0, 1));
        Check.due("nothing, though it took something", 0, x, s -> s.wellOf(1, 3));
        x.pass(1, 1);
        Check.due("rain up to the second limit", 10, x, s -> s.wellOf(1, 3));
        x.pass(1, 10);
        Check.due("rain up to the first limit", 21, x, s -> s.wellOf(1, 3));
    }

    private static void theLots() {
        Doc.says("Lots are numbered from 0, at most 40: so many units are taken from the cell of a well, and are"
                + " bottled in this year.");
        Springward x = quiet();
        Check.due("no lot", Check.INDEX, x, s -> s.lotOf(0, 0));
        for (int l = 0; l < 40; l++) {
            int lot = l;
            if (l % 10 == 0) {
                x.pass(1, 20);
            }
            Check.due("number " + l, lot, x, s -> s.bottle(0, 2));
            Check.due("year " + l, l / 10 + 1, x, s -> s.lotOf(lot, 3));
        }
        Check.due("nothing is left", 0, x, s -> s.cellOf(0, 0));
        x.pass(1, 20);
        Check.due("no forty-first", Check.STATE, x, s -> s.bottle(0, 1));
        Check.due("no lot 40", Check.INDEX, x, s -> s.lotOf(40, 0));
        Check.due("nothing is taken for it", 20, x, s -> s.cellOf(0, 0));
    }

    private static void theAgeOfAUnit() {
        Doc.says("The age of a unit in it is that year less the year in which it fell.");
        Springward x = quiet();
        x.pass(1, 1);
        x.pass(1, 1);
        x.bottle(0, 2);
        Check.due("as it fell in the year ahead", 1, x, s -> s.lotOf(0, 5));
        Check.due("a year older", 2, x, s -> s.lotOf(0, 6));
        x.pass(20, 0);
        Check.due("it ages no more", 2, x, s -> s.lotOf(0, 6));
        Springward old = quiet();
        old.pass(1, 1);
        old.pass(19, 0);
        for (int i = 0; i < 14; i++) {
            old.pass(20, 0);
        }
        old.bottle(0, 1);
        Check.due("the greatest of all", 300, old, s -> s.lotOf(0, 6));
    }

    private static void theTreatments() {
        Doc.says("There are the treatments 0 to 5.");
        Springward x = Waters.of(FOREST, 10);
        for (int t = 0; t < 6; t++) {
            int treatment = t;
            Check.due("treatment " + t, (2 << t) - 1, x, s -> s.treat(0, treatment));
            Check.due("forbidden " + t, 0, x, s -> s.forbid(treatment));
        }
        Check.due("below", Check.INDEX, x, s -> s.treat(0, -1));
        Check.due("above", Check.INDEX, x, s -> s.treat(0, 6));
        Check.due("below, to forbid", Check.INDEX, x, s -> s.forbid(-1));
        Check.due("above, to forbid", Check.INDEX, x, s -> s.forbid(6));
    }

    private static void isWater(String what, int best, Check.Make maker) {
        Check.due(what + ", best", best, maker.make(), s -> s.best(0));
        for (int water = MINERAL; water <= TABLE; water++) {
            int kind = water;
            Check.due(what + ", label " + water, best <= kind, maker.make(), s -> s.label(0, kind));
        }
    }

    private static void mineralWater() {
        Doc.says("MINERAL water has at most the treatment 0, no compounds, no unit with an age below 10, and at"
                + " most 5 of nitrate for each unit, all together;");
        isWater("no treatment", MINERAL, () -> Waters.of(FOREST, 10));
        isWater("treatment 0", MINERAL, () -> Waters.of(FOREST, 10, 0));
        isWater("treatment 1", SPRING, () -> Waters.of(FOREST, 10, 1));
        isWater("treatments 0 and 1", SPRING, () -> Waters.of(FOREST, 10, 0, 1));
        isWater("a compound", SPRING, Waters::spilled);
        isWater("age 10", MINERAL, () -> Waters.of(FOREST, 10));
        isWater("age 9", SPRING, () -> Waters.of(FOREST, 9));
        isWater("one unit below 10", SPRING, () -> Waters.mixedAges(21));
        isWater("no unit below 10", MINERAL, () -> Waters.mixedAges(20));
        isWater("nitrate 5 for each unit", MINERAL, () -> Waters.mixed(5 * 39));
        isWater("nitrate of one more", SPRING, () -> Waters.mixed(5 * 39 + 1));
        isWater("nitrate of one less", MINERAL, () -> Waters.mixed(5 * 39 - 1));
        isWater("treatment 0 and nitrate", SPRING, () -> treated(Waters.mixed(5 * 39 + 1), 0));
    }

    private static Springward treated(Springward x, int treatment) {
        x.treat(0, treatment);
        return x;
    }

    private static void springWater() {
        Doc.says("SPRING water at most the treatments 0 and 1, and at most 8 of nitrate for each unit, all"
                + " together, compounds and ages being no matter;");
        isWater("treatment 1", SPRING, () -> Waters.of(FOREST, 10, 1));
        isWater("treatments 0 and 1", SPRING, () -> Waters.of(GRASS, 1, 0, 1));
        for (int t = 2; t < 6; t++) {
            int treatment = t;
            isWater("treatment " + t, TABLE, () -> Waters.of(FOREST, 10, treatment));
            isWater("treatments 0, 1 and " + t, TABLE, () -> Waters.of(FOREST, 10, 0, 1, treatment));
        }
        isWater("nitrate 8 for each unit", SPRING, () -> Waters.mixed(8 * 39));
        isWater("nitrate of one more", TABLE, () -> Waters.mixed(8 * 39 + 1));
        isWater("compounds", SPRING, Waters::spilled);
        isWater("the least age", SPRING, () -> Waters.of(FOREST, 1));
    }

    private static void tableWater() {
        Doc.says("any water is TABLE water.");
        isWater("field, all treatments", TABLE, () -> Waters.of(FIELD, 1, 0, 1, 2, 3, 4, 5));
        isWater("field, all treatments forbidden", TABLE, () -> {
            Springward x = Waters.of(FIELD, 1, 0, 1, 2, 3, 4, 5);
            for (int treatment = 0; treatment < 6; treatment++) {
                x.forbid(treatment);
            }
            return x;
        });
    }

    private static void severalKinds() {
        Doc.says("So a lot may be water of several kinds.");
        Springward x = quiet();
        x.pass(1, 30);
        x.pass(10, 0);
        for (int l = 0; l < 3; l++) {
            int kind = l;
            x.bottle(0, 10);
            Check.due("the same water as kind " + l, true, x, s -> s.label(kind, kind));
        }
    }

    private static void forbiddenFromThenOn() {
        Doc.says("A treatment that is forbidden is none that MINERAL or SPRING water may have, from then on.");
        for (int t = 0; t < 2; t++) {
            int treatment = t;
            Springward x = Waters.of(FOREST, 10, treatment);
            Check.due("ahead of it " + t, t, x, s -> s.best(0));
            x.forbid(1 - treatment);
            Check.due("another treatment " + t, t, x, s -> s.best(0));
            x.forbid(treatment);
            Check.due("from then on " + t, TABLE, x, s -> s.best(0));
            x.pass(20, 0);
            Check.due("years behind it " + t, TABLE, x, s -> s.best(0));
            Check.due("the label behind it " + t, false, x, s -> s.label(0, treatment == 0 ? MINERAL : SPRING));
        }
        Springward untreated = Waters.of(FOREST, 10);
        for (int treatment = 0; treatment < 6; treatment++) {
            untreated.forbid(treatment);
        }
        Check.due("without treatments", MINERAL, untreated, s -> s.best(0));
        Springward late = Waters.of(FOREST, 10);
        late.forbid(0);
        Check.due("treated behind it", 1, late, s -> s.treat(0, 0));
        Check.due("what it is then", TABLE, late, s -> s.best(0));
    }

    private static void labelledOnce() {
        Doc.says("A lot is labelled once;");
        for (int first = MINERAL; first <= TABLE; first++) {
            for (int land = FOREST; land <= FIELD; land += FIELD) {
                for (int second = MINERAL; second <= TABLE; second++) {
                    int label = first;
                    int other = second;
                    int on = land;
                    Check.refused("labelled " + first + ", then " + second + ", land " + land, Check.STATE, () -> {
                        Springward x = Waters.of(on, 10);
                        x.label(0, label);
                        return x;
                    }, s -> s.label(0, other));
                }
            }
        }
    }

    private static void trueAsItIsLabelled() {
        Doc.says("the label is true if the lot is water of that kind as it is labelled, false otherwise.");
        Springward x = Waters.of(FOREST, 10, 0);
        Check.due("true", true, x, s -> s.label(0, MINERAL));
        x.forbid(0);
        Check.due("true as it was labelled", 1, x, s -> s.lotOf(0, 9));
        Check.due("no false label", 0L, x, s -> s.sum(6));
        Springward y = Waters.of(FIELD, 10);
        Check.due("false", false, y, s -> s.label(0, SPRING));
        y.land(0, FOREST);
        y.pass(5, 10);
        Check.due("false as it was labelled", 0, y, s -> s.lotOf(0, 9));
        Check.due("a false label", 1L, y, s -> s.sum(6));
    }

    private static void recalledAsItIsForbidden() {
        Doc.says("All lots with a treatment that is forbidden, which are labelled MINERAL or SPRING, and are not"
                + " recalled yet, are recalled as it is.");
        // The treatments and the label of each lot, and by which treatment it is recalled.
        int[][] due = {{1, MINERAL, 0}, {1, SPRING, 0}, {1, TABLE, NONE}, {1, NONE, NONE}, {3, SPRING, 0},
            {2, SPRING, 1}, {0, MINERAL, NONE}, {33, MINERAL, 0}, {32, SPRING, 5}, {2, TABLE, NONE}};
        Springward x = quiet();
        x.pass(1, 30);
        for (int l = 0; l < due.length; l++) {
            x.bottle(0, 1);
            for (int t = 0; t < 6; t++) {
                if ((due[l][0] >> t & 1) == 1) {
                    x.treat(l, t);
                }
            }
            if (due[l][1] != NONE) {
                x.label(l, due[l][1]);
            }
        }
        recalls(x, due, 0, 4);
        Check.due("labelled behind it", false, x, s -> s.label(3, SPRING));
        recalls(x, due, 4, 0);
        recalls(x, due, 1, 1);
        recalls(x, due, 2, 0);
        recalls(x, due, 5, 1);
    }

    private static void recalls(Springward x, int[][] due, int treatment, int howMany) {
        Check.due("recalled by " + treatment, howMany, x, s -> s.forbid(treatment));
        for (int l = 0; l < due.length; l++) {
            int lot = l;
            // Those that an earlier call recalled are no matter here.
            if (due[l][2] == treatment || due[l][2] == NONE) {
                Check.due("lot " + l + " behind " + treatment, due[l][2] == treatment ? 1 : 0, x,
                        s -> s.lotOf(lot, 10));
            }
        }
    }

    private static void theVillage() {
        Doc.says("The village gets some cents, 1 at first, for each unit as it is bottled.");
        Springward x = quiet();
        x.pass(1, 39);
        Check.due("nothing yet", 0L, x, s -> s.sum(5));
        x.bottle(0, 4);
        Check.due("1 at first", 4L, x, s -> s.sum(5));
        x.share(100);
        Check.due("nothing for what was bottled", 4L, x, s -> s.sum(5));
        x.bottle(0, 3);
        Check.due("as it is bottled", 304L, x, s -> s.sum(5));
        x.share(0);
        x.bottle(0, 3);
        Check.due("none", 304L, x, s -> s.sum(5));
        Check.due("refused", Check.STATE, x, s -> s.bottle(0, 100));
        Check.due("nothing for what is not bottled", 304L, x, s -> s.sum(5));
    }

    private static void whichException() {
        Doc.says("An IndexOutOfBoundsException is thrown if there is no such cell, compound, well, lot or"
                + " treatment, an IllegalArgumentException if another argument is out of range, an"
                + " IllegalStateException as told.");
        Springward x = Scene.BUSY.make();
        Check.due("cell", Check.INDEX, x, s -> s.rock(10, 1));
        Check.due("compound", Check.INDEX, x, s -> s.spill(9, 8));
        Check.due("well", Check.INDEX, x, s -> s.bottle(3, 1));
        Check.due("lot", Check.INDEX, x, s -> s.treat(5, 0));
        Check.due("treatment", Check.INDEX, x, s -> s.treat(0, 6));
        Check.due("another argument", Check.ARGUMENT, x, s -> s.rock(9, 41));
        Check.due("as told", Check.STATE, x, s -> s.land(5, GRASS));
    }

    private static void firstListedException() {
        Doc.says("If several exceptions of a throws clause apply, the one that is listed first is thrown.");
        Check.due("index, argument", Check.INDEX, Scene.NEW.make(), s -> s.rock(-1, 0));
        Check.due("index, argument and state", Check.INDEX, Scene.FULL.make(), s -> s.bottle(6, 0));
        Check.due("argument and state", Check.ARGUMENT, Scene.FULL.make(), s -> s.bottle(0, 0));
        Check.due("index and state", Check.INDEX, Scene.BUSY.make(), s -> s.treat(1, 6));
        Check.due("argument and state, of years", Check.ARGUMENT, Scene.LAST.make(), s -> s.pass(1, -1));
    }

    private static void refusedCallsChangeNothing() {
        Doc.says("A call of a method that throws an exception changes nothing.");
        Check.refusedAnywhere("no such cell", Check.INDEX, s -> s.lead(10, 0));
        Check.refusedAnywhere("no such years", Check.ARGUMENT, s -> s.pass(21, 1000));
        Check.refused("above 300", Check.STATE, Scene.LATE, s -> s.pass(20, 1000));
        // However often it is refused.
        Check.equal("refused often", Story.whole(() -> {
            Springward x = Scene.BUSY.make();
            for (int i = 0; i < 50; i++) {
                Check.due("refused " + i, Check.STATE, x, s -> s.bottle(2, 1000));
            }
            return x;
        }), Story.whole(Scene.BUSY));
    }

    private static void theConstants() {
        Doc.says("The constants: `NONE = -1`: There is none;");
        Check.due("no front in a dry cell", -1, new Springward(), s -> s.cellOf(0, 6));
        Doc.says("the spring.");
        Check.due("cell 0 leads to the spring", -1, new Springward(), s -> s.lead(0, -1));
        Doc.says("`FOREST = 0, GRASS = 1, FIELD = 2`: Land.");
        Check.equal("land", FOREST + " " + GRASS + " " + FIELD, "0 1 2");
        Doc.says("`MINERAL = 0, SPRING = 1, TABLE = 2`: Water.");
        Check.equal("water", MINERAL + " " + SPRING + " " + TABLE, "0 1 2");
        Doc.saysNoAnswer("Ahead of the calls `rock`");
        Doc.saysNoAnswer("Ahead of the calls `well`");
        Doc.saysNoAnswer("Ahead of the calls `year`");
    }
}
