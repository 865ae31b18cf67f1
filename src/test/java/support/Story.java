/**
 * Tells all that can be seen of an object, hidden state too, by going on with it. As an object is
 * used for 512 calls at most, it is told in parts, each of an object of its own.
 */
final class Story {
    static final int PARTS = 3;

    private static final int[] LOTS = {0, 1, 2, 3, 4, 5, 39, 40};

    private Story() {
    }

    /** Needs up to 400 calls; the object is used up by it. */
    static String of(int part, Springward x) {
        StringBuilder told = new StringBuilder();
        switch (part) {
            case 0:
                asked(x, told);
                break;
            case 1:
                inquired(x, told);
                break;
            default:
                wentOn(x, told);
                asked(x, told);
        }
        return told.toString();
    }

    static String whole(Check.Make maker) {
        StringBuilder told = new StringBuilder();
        for (int part = 0; part < PARTS; part++) {
            told.append(of(part, maker.make())).append('/');
        }
        return told.toString();
    }

    private static void asked(Springward x, StringBuilder told) {
        tell(x, told, s -> s.year());
        for (int c = 0; c < 10; c++) {
            for (int q = 0; q < 7; q++) {
                int cell = c;
                int what = q;
                tell(x, told, s -> s.cellOf(cell, what));
            }
        }
        for (int q = 0; q < 7; q++) {
            int what = q;
            tell(x, told, s -> s.flow(what));
            tell(x, told, s -> s.sum(what));
        }
        for (int w = 0; w < 7; w++) {
            for (int q = 0; q < 4; q++) {
                int well = w;
                int what = q;
                tell(x, told, s -> s.wellOf(well, what));
            }
        }
        for (int lot : LOTS) {
            for (int q = 0; q < 11; q++) {
                int what = q;
                tell(x, told, s -> s.lotOf(lot, what));
            }
            tell(x, told, s -> s.age(lot));
            tell(x, told, s -> s.best(lot));
        }
    }

    private static void inquired(Springward x, StringBuilder told) {
        for (int lot : LOTS) {
            for (int cell : new int[] {0, 1, 8}) {
                for (int year : new int[] {0, 1, 15, 19}) {
                    tell(x, told, s -> s.from(lot, cell, year));
                    tell(x, told, s -> s.fromAnew(lot, cell, year));
                }
            }
            for (int c = 0; c < 8; c++) {
                int compound = c;
                tell(x, told, s -> s.whence(lot, compound));
            }
        }
    }

    private static void wentOn(Springward x, StringBuilder told) {
        for (int c = 0; c < 10; c++) {
            int cell = c;
            tell(x, told, s -> s.land(cell, Springward.GRASS));
            tell(x, told, s -> s.rock(cell, 40));
            tell(x, told, s -> s.spill(cell, 0));
        }
        for (int w = 0; w < 3; w++) {
            int well = w;
            tell(x, told, s -> s.bottle(well, 1));
        }
        tell(x, told, s -> s.share(9));
        for (int lot : LOTS) {
            tell(x, told, s -> s.treat(lot, 3));
            tell(x, told, s -> s.label(lot, Springward.SPRING));
        }
        for (int t = 0; t < 6; t++) {
            int treatment = t;
            tell(x, told, s -> s.forbid(treatment));
        }
        // As the cells fill slowly, each limit of a drought is seen as it is passed.
        for (int year = 0; year < 12; year++) {
            tell(x, told, s -> s.pass(1, 2));
            tell(x, told, s -> s.wellOf(0, 3));
            tell(x, told, s -> s.wellOf(1, 3));
            tell(x, told, s -> s.sum(4));
        }
        tell(x, told, s -> s.well(2, 3));
        followed(x, told, 0, 9, 6);
        followed(x, told, 1, 1, 6);
        // All of that cell, and what fell there last.
        followed(x, told, 2, x.cellOf(8, 0), 5);
    }

    /** Bottles a lot and follows the water in it of the greatest or the least age, on each cell. */
    private static void followed(Springward x, StringBuilder told, int well, int units, int age) {
        String number = Check.answer(x, s -> s.bottle(well, units));
        told.append(number).append(' ');
        if (number.startsWith("throws")) {
            return;
        }
        int lot = Integer.parseInt(number);
        int year = x.lotOf(lot, 3) - x.lotOf(lot, age);
        for (int c = 0; c < 10; c++) {
            int cell = c;
            tell(x, told, s -> s.from(lot, cell, year));
            tell(x, told, s -> s.fromAnew(lot, cell, year));
        }
    }

    private static void tell(Springward x, StringBuilder told, Check.Call call) {
        told.append(Check.answer(x, call)).append(' ');
    }
}
