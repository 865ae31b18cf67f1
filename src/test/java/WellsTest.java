/** Promises 8 to 14 and 18 to 21: wells and lots, and what is asked of them. */
public final class WellsTest {
    private static final int[] NO_NUMBERS = {-1, 2, 40, Integer.MIN_VALUE, Integer.MAX_VALUE};

    private WellsTest() {
    }

    public static void main(String[] args) {
        promise8Well();
        promise9Drought();
        promise9DroughtAsBottled();
        promise10Share();
        promise11Bottle();
        promise11BottleRefused();
        promise11FortyLots();
        promise12Treat();
        promise13LabelMineral();
        promise13LabelSpring();
        promise13LabelRefused();
        promise14Forbid();
        promise18WellOf();
        promise19LotOf();
        promise20Age();
        promise21Best();
        Check.end();
    }

    /** Two wells and two lots, the second one labelled, and a treatment that is forbidden. */
    private static Springward used() {
        Springward x = new Springward();
        x.rock(0, 40);
        x.rock(1, 40);
        x.land(1, Springward.FIELD);
        x.spill(1, 5);
        x.well(0, 100);
        x.well(1, 60);
        x.pass(20, 10);
        x.bottle(0, 20);
        x.bottle(1, 30);
        x.treat(0, 4);
        x.treat(1, 1);
        x.label(1, Springward.SPRING);
        x.forbid(2);
        x.drought(3, 1, 0);
        return x;
    }

    private static void refused(String what, String exception, Check.Call call) {
        Check.refused(what, exception, WellsTest::used, call);
    }

    private static void promise8Well() {
        Springward x = new Springward();
        for (int w = 0; w < 6; w++) {
            int well = w;
            Check.due("8 number " + w, w, x, s -> s.well(9 - well, well == 0 ? 0 : 10000));
        }
        Check.due("8 cell", 4, x, s -> s.wellOf(5, 0));
        Check.due("8 least permit", 0, x, s -> s.wellOf(0, 1));
        Check.due("8 highest permit", 10000, x, s -> s.wellOf(5, 1));
        Check.Make full = () -> {
            Springward y = used();
            for (int w = 2; w < 6; w++) {
                y.well(3, 7);
            }
            return y;
        };
        Check.refused("8 six", Check.STATE, full, s -> s.well(0, 1));
        Check.refused("8 six and permit", Check.ARGUMENT, full, s -> s.well(0, -1));
        Check.refused("8 six and cell", Check.INDEX, full, s -> s.well(10, 1));
        for (int cell : new int[] {-1, 10, Integer.MIN_VALUE, Integer.MAX_VALUE}) {
            refused("8 cell " + cell, Check.INDEX, s -> s.well(cell, 1));
            refused("8 cell and permit " + cell, Check.INDEX, s -> s.well(cell, 10001));
        }
        for (int permit : new int[] {-1, 10001, Integer.MIN_VALUE, Integer.MAX_VALUE}) {
            refused("8 permit " + permit, Check.ARGUMENT, s -> s.well(0, permit));
        }
    }

    private static void promise9Drought() {
        Springward x = new Springward();
        x.rock(2, 40);
        x.lead(3, 0);
        x.well(0, 81);
        x.well(5, 1);
        x.well(2, 5);
        x.pass(1, 30);
        x.bottle(2, 5);
        // Cell 2 has 25 units now, all others have 30.
        Check.due("9 no drought at first", 81, x, s -> s.wellOf(0, 3));
        long[][] due = {{0, 0, 81}, {25, 0, 81}, {25, 25, 81}, {26, 0, 40}, {26, 25, 40}, {26, 26, 0},
            {100000, 100000, 0}, {100000, 0, 40}, {1, 1, 81}};
        for (long[] limits : due) {
            x.drought(2, (int) limits[0], (int) limits[1]);
            Check.due("9 limits " + limits[0] + " " + limits[1], limits[2], x, s -> s.wellOf(0, 3));
        }
        x.drought(2, 26, 0);
        Check.due("9 half of 1", 0, x, s -> s.wellOf(1, 3));
        x.drought(9, 26, 26);
        Check.due("9 another cell", 81, x, s -> s.wellOf(0, 3));
        x.drought(2, 26, 26);
        x.pass(1, 30);
        Check.due("9 rain ends it", 81, x, s -> s.wellOf(0, 3));
        for (int cell : new int[] {-1, 10, Integer.MIN_VALUE, Integer.MAX_VALUE}) {
            refused("9 cell " + cell, Check.INDEX, s -> limits(s, cell, 5000, 1));
            refused("9 cell and limit " + cell, Check.INDEX, s -> limits(s, cell, -1, 1));
        }
        for (int first : new int[] {-1, 100001, Integer.MIN_VALUE, Integer.MAX_VALUE}) {
            refused("9 first " + first, Check.ARGUMENT, s -> limits(s, 0, first, 0));
            refused("9 both " + first, Check.ARGUMENT, s -> limits(s, 0, first, first));
        }
        for (int second : new int[] {-1, 5001, Integer.MIN_VALUE, Integer.MAX_VALUE}) {
            refused("9 second " + second, Check.ARGUMENT, s -> limits(s, 0, 5000, second));
        }
        refused("9 second above no first", Check.ARGUMENT, s -> limits(s, 0, 0, 1));
    }

    private static Object limits(Springward x, int cell, int first, int second) {
        x.drought(cell, first, second);
        return "nothing";
    }

    private static void promise9DroughtAsBottled() {
        Springward x = new Springward();
        x.well(0, 60);
        x.pass(1, 100);
        x.drought(0, 90, 65);
        Check.due("9 not dry yet", 0, x, s -> s.bottle(0, 11));
        Check.due("9 half is left", 30 - 11, x, s -> s.wellOf(0, 3));
        Check.due("9 more than half", Check.STATE, x, s -> s.bottle(0, 20));
        Check.due("9 what is left", 1, x, s -> s.bottle(0, 19));
        Check.due("9 took", 30, x, s -> s.wellOf(0, 2));
        x.drought(0, 70, 0);
        Check.due("9 permit back", 30, x, s -> s.wellOf(0, 3));
        Check.due("9 looked at ahead of the bottling", 2, x, s -> s.bottle(0, 30));
        Check.due("9 less than nothing is nothing", 0, x, s -> s.wellOf(0, 3));
    }

    private static void promise10Share() {
        Springward x = new Springward();
        x.well(0, 1000);
        x.pass(1, 1000);
        x.bottle(0, 7);
        Check.due("10 a cent each", 7L, x, s -> s.sum(5));
        Check.due("10 first", 1, x, s -> s.share(100));
        x.bottle(0, 10);
        Check.due("10 more each", 1007L, x, s -> s.sum(5));
        Check.due("10 again", 100, x, s -> s.share(0));
        x.bottle(0, 10);
        Check.due("10 none each", 1007L, x, s -> s.sum(5));
        Check.due("10 last", 0, x, s -> s.share(1));
        for (int cents : new int[] {-1, 101, Integer.MIN_VALUE, Integer.MAX_VALUE}) {
            refused("10 cents " + cents, Check.ARGUMENT, s -> s.share(cents));
        }
    }

    private static void promise11Bottle() {
        Springward x = new Springward();
        x.well(0, 1000);
        x.well(0, 10);
        x.well(4, 5000);
        x.pass(1, 1000);
        Check.due("11 first", 0, x, s -> s.bottle(0, 1));
        Check.due("11 next", 1, x, s -> s.bottle(1, 10));
        Check.due("11 largest", 2, x, s -> s.bottle(2, 1000));
        Check.due("11 cell is dry", 0, x, s -> s.cellOf(4, 0));
        Check.due("11 nothing in it", Check.STATE, x, s -> s.bottle(2, 1));
        Check.due("11 what stays", 989, x, s -> s.cellOf(0, 0));
        Check.due("11 permit", Check.STATE, x, s -> s.bottle(1, 1));
        Check.due("11 more than is there", Check.STATE, x, s -> s.bottle(0, 990));
        Check.due("11 all that is there", 3, x, s -> s.bottle(0, 989));
        Check.due("11 bottled", 2000L, x, s -> s.sum(3));
        x.pass(1, 20);
        Check.due("11 a new year", 4, x, s -> s.bottle(1, 10));
        Check.due("11 of which year", 2, x, s -> s.lotOf(4, 3));
        Check.due("11 units", 10, x, s -> s.lotOf(4, 1));
        Check.due("11 whose rain", 10, x, s -> s.from(4, 1, 0));
    }

    private static void promise11BottleRefused() {
        for (int well : NO_NUMBERS) {
            refused("11 well " + well, Check.INDEX, s -> s.bottle(well, 1));
            refused("11 well and units " + well, Check.INDEX, s -> s.bottle(well, 0));
        }
        for (int units : new int[] {0, -1, 1001, Integer.MIN_VALUE, Integer.MAX_VALUE}) {
            refused("11 units " + units, Check.ARGUMENT, s -> s.bottle(0, units));
        }
        refused("11 permit", Check.STATE, s -> s.bottle(0, 81));
        refused("11 other permit", Check.STATE, s -> s.bottle(1, 31));
        Check.refused("11 water", Check.STATE, () -> {
            Springward x = used();
            x.well(9, 10000);
            return x;
        }, s -> s.bottle(2, 1000));
    }

    private static void promise11FortyLots() {
        Check.Make full = () -> {
            Springward x = used();
            for (int l = 2; l < 40; l++) {
                x.bottle(0, 1);
            }
            return x;
        };
        Springward x = full.make();
        Check.due("11 the last", 1, x, s -> s.lotOf(39, 1));
        Check.due("11 none behind", Check.INDEX, x, s -> s.lotOf(40, 1));
        Check.refused("11 forty", Check.STATE, full, s -> s.bottle(0, 1));
        Check.refused("11 forty and units", Check.ARGUMENT, full, s -> s.bottle(0, 0));
        Check.refused("11 forty and well", Check.INDEX, full, s -> s.bottle(2, 1));
    }

    private static void promise12Treat() {
        Springward x = used();
        Check.due("12 one more", 17, x, s -> s.treat(0, 0));
        Check.due("12 twice", 17, x, s -> s.treat(0, 4));
        Check.due("12 forbidden, but done", 21, x, s -> s.treat(0, 2));
        Check.due("12 last", 53, x, s -> s.treat(0, 5));
        Check.due("12 told", 53, x, s -> s.lotOf(0, 7));
        x.label(0, Springward.TABLE);
        Check.due("12 labelled as TABLE", Check.STATE, x, s -> s.treat(0, 1));
        for (int lot : NO_NUMBERS) {
            refused("12 lot " + lot, Check.INDEX, s -> s.treat(lot, 0));
        }
        for (int treatment : new int[] {-1, 6, 32, Integer.MIN_VALUE, Integer.MAX_VALUE}) {
            refused("12 treatment " + treatment, Check.INDEX, s -> s.treat(0, treatment));
            refused("12 treatment of a labelled lot " + treatment, Check.INDEX, s -> s.treat(1, treatment));
        }
        refused("12 labelled", Check.STATE, s -> s.treat(1, 0));
        refused("12 labelled, same treatment", Check.STATE, s -> s.treat(1, 1));
    }

    private static void labelled(String what, boolean isTrue, int water, Springward x) {
        Check.due(what, isTrue, x, s -> s.label(0, water));
        Check.due(what + ", told", isTrue ? 1 : 0, x, s -> s.lotOf(0, 9));
        Check.due(what + ", which", water, x, s -> s.lotOf(0, 8));
        Check.due(what + ", false ones", isTrue ? 0L : 1L, x, s -> s.sum(6));
    }

    private static void promise13LabelMineral() {
        int mineral = Springward.MINERAL;
        labelled("13 old forest", true, mineral, Waters.of(Springward.FOREST, 10));
        labelled("13 young forest", false, mineral, Waters.of(Springward.FOREST, 9));
        labelled("13 old grass", true, mineral, Waters.of(Springward.GRASS, 15));
        labelled("13 field", false, mineral, Waters.of(Springward.FIELD, 15));
        labelled("13 treatment 0", true, mineral, Waters.of(Springward.FOREST, 10, 0));
        for (int t = 1; t < 6; t++) {
            labelled("13 treatment " + t, false, mineral, Waters.of(Springward.FOREST, 10, t));
            labelled("13 treatments 0, " + t, false, mineral, Waters.of(Springward.FOREST, 10, 0, t));
        }
        Springward forbidden = Waters.of(Springward.FOREST, 10, 0);
        forbidden.forbid(0);
        labelled("13 treatment 0 forbidden", false, mineral, forbidden);
        Springward other = Waters.of(Springward.FOREST, 10, 0);
        other.forbid(1);
        labelled("13 treatment 1 forbidden", true, mineral, other);
        labelled("13 nitrate of 5 each", true, mineral, Waters.mixed(39 * 5));
        labelled("13 nitrate above 5 each", false, mineral, Waters.mixed(39 * 5 + 1));
        labelled("13 compound", false, mineral, Waters.spilled());
        labelled("13 one unit too young", false, mineral, Waters.mixedAges(21));
        labelled("13 no unit too young", true, mineral, Waters.mixedAges(20));
    }

    private static void promise13LabelSpring() {
        int spring = Springward.SPRING;
        labelled("13 young forest", true, spring, Waters.of(Springward.FOREST, 2));
        labelled("13 field", false, spring, Waters.of(Springward.FIELD, 20));
        labelled("13 compounds are no matter", true, spring, Waters.spilled());
        labelled("13 nitrate of 8 each", true, spring, Waters.mixed(39 * 8));
        labelled("13 nitrate above 8 each", false, spring, Waters.mixed(39 * 8 + 1));
        labelled("13 treatments 0, 1", true, spring, Waters.of(Springward.GRASS, 2, 0, 1));
        for (int t = 2; t < 6; t++) {
            labelled("13 treatment " + t, false, spring, Waters.of(Springward.FOREST, 2, t));
        }
        for (int t = 0; t < 2; t++) {
            Springward forbidden = Waters.of(Springward.FOREST, 2, t);
            forbidden.forbid(t);
            labelled("13 forbidden treatment " + t, false, spring, forbidden);
            Springward other = Waters.of(Springward.FOREST, 2, t);
            other.forbid(1 - t);
            labelled("13 another forbidden treatment " + t, true, spring, other);
        }
        Springward any = Waters.of(Springward.FIELD, 2, 0, 1, 2, 3, 4, 5);
        any.forbid(5);
        labelled("13 any water is TABLE water", true, Springward.TABLE, any);
    }

    private static void promise13LabelRefused() {
        for (int lot : NO_NUMBERS) {
            refused("13 lot " + lot, Check.INDEX, s -> s.label(lot, 0));
            refused("13 lot and water " + lot, Check.INDEX, s -> s.label(lot, 3));
        }
        for (int water : new int[] {-1, 3, Integer.MIN_VALUE, Integer.MAX_VALUE}) {
            refused("13 water " + water, Check.ARGUMENT, s -> s.label(0, water));
            refused("13 water of a labelled lot " + water, Check.ARGUMENT, s -> s.label(1, water));
        }
        refused("13 labelled", Check.STATE, s -> s.label(1, Springward.TABLE));
        refused("13 labelled alike", Check.STATE, s -> s.label(1, Springward.SPRING));
    }

    private static void promise14Forbid() {
        Springward x = new Springward();
        x.rock(0, 40);
        x.well(0, 10000);
        x.pass(20, 20);
        int[][] treatments = {{0}, {0, 1}, {0, 3}, {0}, {1}, {0, 1}};
        for (int l = 0; l < 6; l++) {
            x.bottle(0, 5);
            for (int treatment : treatments[l]) {
                x.treat(l, treatment);
            }
        }
        x.label(0, Springward.MINERAL);
        x.label(1, Springward.SPRING);
        x.label(2, Springward.SPRING);
        x.label(3, Springward.TABLE);
        x.label(4, Springward.SPRING);
        Check.due("14 a false label is recalled too", 1, x, s -> s.forbid(3));
        Check.due("14 unused", 0, x, s -> s.forbid(5));
        Check.due("14 labelled, not recalled yet", 2, x, s -> s.forbid(0));
        long[] due = {1, 1, 1, 0, 0, 0};
        for (int l = 0; l < 6; l++) {
            int lot = l;
            Check.due("14 recalled " + l, due[l], x, s -> s.lotOf(lot, 10));
        }
        Check.due("14 label behind it", false, x, s -> s.label(5, Springward.SPRING));
        Check.due("14 not recalled by that", 0, x, s -> s.lotOf(5, 10));
        Check.due("14 recalled by another", 2, x, s -> s.forbid(1));
        Check.due("14 all recalled", 1, x, s -> s.lotOf(4, 10) * s.lotOf(5, 10));
        Check.due("14 the label was true", 1, x, s -> s.lotOf(0, 9));
        Check.due("14 false labels", 2L, x, s -> s.sum(6));
        Check.due("14 last", 0, x, s -> s.forbid(4));
        for (int t : new int[] {0, 1, 3, 4, 5}) {
            Check.due("14 forbidden for ever " + t, Check.STATE, x, s -> s.forbid(t));
        }
        for (int treatment : new int[] {-1, 6, 32, Integer.MIN_VALUE, Integer.MAX_VALUE}) {
            refused("14 treatment " + treatment, Check.INDEX, s -> s.forbid(treatment));
        }
        refused("14 forbidden", Check.STATE, s -> s.forbid(2));
    }

    private static void promise18WellOf() {
        Springward x = used();
        int[][] due = {{0, 100, 20, 80}, {1, 60, 30, 30}};
        for (int w = 0; w < 2; w++) {
            for (int q = 0; q < 4; q++) {
                int well = w;
                int what = q;
                Check.due("18 well " + w + " what " + q, due[w][q], x, s -> s.wellOf(well, what));
            }
        }
        x.pass(1, 0);
        Check.due("18 nothing yet", 0, x, s -> s.wellOf(0, 2));
        Check.due("18 the whole permit", 100, x, s -> s.wellOf(0, 3));
        for (int well : NO_NUMBERS) {
            refused("18 well " + well, Check.INDEX, s -> s.wellOf(well, 0));
            refused("18 well and what " + well, Check.INDEX, s -> s.wellOf(well, 4));
        }
        for (int what : new int[] {-1, 4, Integer.MIN_VALUE, Integer.MAX_VALUE}) {
            refused("18 what " + what, Check.ARGUMENT, s -> s.wellOf(0, what));
        }
    }

    private static void promise19LotOf() {
        Springward x = twoRains();
        x.treat(0, 0);
        x.treat(0, 1);
        x.label(0, Springward.SPRING);
        told("19 labelled", x, 0, 1, 25, 70, 7, 32, 3, 7, 3, Springward.SPRING, 1, 0);
        told("19 not labelled", x, 1, 0, 10, 100, 7, 0, 3, 3, 0, Springward.NONE, Springward.NONE, 0);
        x.forbid(1);
        x.label(1, Springward.MINERAL);
        told("19 recalled", x, 0, 1, 25, 70, 7, 32, 3, 7, 3, Springward.SPRING, 1, 1);
        told("19 false", x, 1, 0, 10, 100, 7, 0, 3, 3, 0, Springward.MINERAL, 0, 0);
        x.pass(5, 30);
        told("19 years behind it", x, 0, 1, 25, 70, 7, 32, 3, 7, 3, Springward.SPRING, 1, 1);
        for (int lot : NO_NUMBERS) {
            refused("19 lot " + lot, Check.INDEX, s -> s.lotOf(lot, 0));
            refused("19 lot and what " + lot, Check.INDEX, s -> s.lotOf(lot, 11));
        }
        for (int what : new int[] {-1, 11, Integer.MIN_VALUE, Integer.MAX_VALUE}) {
            refused("19 what " + what, Check.ARGUMENT, s -> s.lotOf(0, what));
        }
    }

    private static void told(String which, Springward x, int lot, int... due) {
        for (int q = 0; q < 11; q++) {
            int what = q;
            Check.due(which + ", what " + q, due[q], x, s -> s.lotOf(lot, what));
        }
    }

    /** In the year 7, lot 0: 20 units of year 0 with compound 5, and 5 of year 4; lot 1: 10 of that. */
    private static Springward twoRains() {
        Springward x = new Springward();
        x.rock(0, 40);
        x.lead(1, Springward.NONE);
        x.spill(0, 5);
        x.well(0, 100);
        x.well(0, 60);
        x.pass(1, 20);
        x.land(0, Springward.FIELD);
        x.pass(3, 0);
        x.pass(1, 15);
        x.pass(2, 0);
        x.bottle(1, 25);
        x.bottle(0, 10);
        return x;
    }

    private static void promise20Age() {
        Springward x = new Springward();
        x.rock(0, 40);
        x.lead(1, Springward.NONE);
        x.well(0, 10000);
        x.pass(1, 2);
        x.pass(1, 1);
        x.bottle(0, 3);
        Check.due("20 5 thirds", 5f / 3f, x, s -> s.age(0));
        x.pass(1, 7);
        x.bottle(0, 7);
        Check.due("20 a year", 1f, x, s -> s.age(1));
        Check.due("20 does not grow", 5f / 3f, x, s -> s.age(0));
        x.pass(3, 1);
        x.bottle(0, 1);
        Check.due("20 a single unit", 3f, x, s -> s.age(2));
        Check.due("20 of two rains", (20 * 7 + 5 * 3) / 25f, twoRains(), s -> s.age(0));
        for (int lot : NO_NUMBERS) {
            refused("20 lot " + lot, Check.INDEX, s -> s.age(lot));
        }
    }

    private static void promise21Best() {
        Check.due("21 mineral", 0, Waters.of(Springward.FOREST, 10, 0), s -> s.best(0));
        Check.due("21 young", 1, Waters.of(Springward.FOREST, 9), s -> s.best(0));
        Check.due("21 treated", 1, Waters.of(Springward.FOREST, 10, 1), s -> s.best(0));
        Check.due("21 spilled", 1, Waters.spilled(), s -> s.best(0));
        Check.due("21 field", 2, Waters.of(Springward.FIELD, 10), s -> s.best(0));
        Check.due("21 treated more", 2, Waters.of(Springward.FOREST, 10, 3), s -> s.best(0));
        Check.due("21 nitrate 5", 0, Waters.mixed(39 * 5), s -> s.best(0));
        Check.due("21 nitrate above 5", 1, Waters.mixed(39 * 5 + 1), s -> s.best(0));
        Check.due("21 nitrate 8", 1, Waters.mixed(39 * 8), s -> s.best(0));
        Check.due("21 nitrate above 8", 2, Waters.mixed(39 * 8 + 1), s -> s.best(0));
        Springward x = Waters.of(Springward.FOREST, 10, 0);
        x.label(0, Springward.TABLE);
        Check.due("21 whatever its label", 0, x, s -> s.best(0));
        x.forbid(0);
        Check.due("21 as it is now", 2, x, s -> s.best(0));
        for (int lot : NO_NUMBERS) {
            refused("21 lot " + lot, Check.INDEX, s -> s.best(lot));
        }
    }
}
