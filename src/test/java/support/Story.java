/** Tells all that can be seen of an object, hidden state too, by going on with it. */
final class Story {
    private Story() {
    }

    /** Needs some 330 calls with two wells and two lots; the object is used up by it. */
    static String of(Springward x) {
        StringBuilder told = new StringBuilder();
        seen(x, told);
        for (int c = 0; c < 10; c++) {
            int cell = c;
            tell(x, told, s -> s.spill(cell, 0));
        }
        for (int w = 0; w < 2; w++) {
            int well = w;
            tell(x, told, s -> s.bottle(well, 1));
        }
        tell(x, told, s -> s.share(9));
        for (int l = 0; l < 4; l++) {
            int lot = l;
            tell(x, told, s -> s.treat(lot, 3));
            tell(x, told, s -> s.label(lot, Springward.SPRING));
        }
        for (int t = 0; t < 6; t++) {
            int treatment = t;
            tell(x, told, s -> s.forbid(treatment));
        }
        tell(x, told, s -> s.pass(2, 7));
        seen(x, told);
        return told.toString();
    }

    private static void seen(Springward x, StringBuilder told) {
        tell(x, told, s -> s.year());
        for (int c = 0; c < 10; c++) {
            for (int q = 0; q < 7; q++) {
                int cell = c;
                int what = q;
                tell(x, told, s -> s.cellOf(cell, what));
            }
        }
        for (int q = 0; q < 7; q++) {
            int what = q;
            tell(x, told, s -> s.flow(what));
            tell(x, told, s -> s.sum(what));
        }
        for (int n = 0; n < 3; n++) {
            int number = n;
            for (int q = 0; q < 4; q++) {
                int what = q;
                tell(x, told, s -> s.wellOf(number, what));
            }
            for (int q = 0; q < 11; q++) {
                int what = q;
                tell(x, told, s -> s.lotOf(number, what));
            }
            tell(x, told, s -> s.age(number));
            tell(x, told, s -> s.best(number));
        }
    }

    private static void tell(Springward x, StringBuilder told, Check.Call call) {
        told.append(Check.answer(x, call)).append(' ');
    }
}
