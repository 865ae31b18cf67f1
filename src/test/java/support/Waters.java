/** Objects with a well in cell 0 and the lot 0 of a water that is told. */
final class Waters {
    private Waters() {
    }

    /** A lot of water of one age, from cell 0 alone. */
    static Springward of(int land, int age, int... treatments) {
        Springward x = new Springward();
        x.rock(0, 40);
        x.lead(1, Springward.NONE);
        x.land(0, land);
        x.well(0, 10000);
        x.pass(1, 20);
        if (age > 1) {
            x.pass(age - 1, 0);
        }
        x.bottle(0, 10);
        for (int treatment : treatments) {
            x.treat(0, treatment);
        }
        return x;
    }

    /**
     * A lot of 39 old units of field, grass and forest with that nitrate, together. As its cell
     * holds water for 40 years and has no more of it, none flows away.
     */
    static Springward mixed(int nitrate) {
        for (int field = 0; field <= 39; field++) {
            for (int grass = 0; grass + field <= 39; grass++) {
                if (10 * field + 3 * grass + 39 - field - grass == nitrate) {
                    return mixed(field, grass);
                }
            }
        }
        throw new IllegalStateException("there is no such lot");
    }

    private static Springward mixed(int field, int grass) {
        Springward x = new Springward();
        x.rock(0, 40);
        x.lead(1, Springward.NONE);
        x.well(0, 10000);
        int[] units = {39 - field - grass, grass, field};
        for (int land = 0; land < 3; land++) {
            x.land(0, land);
            x.pass(1, units[land]);
        }
        x.pass(11, 0);
        x.bottle(0, 39);
        return x;
    }

    static Springward spilled() {
        Springward x = new Springward();
        x.rock(0, 40);
        x.well(0, 10000);
        x.spill(0, 3);
        x.pass(1, 20);
        x.pass(12, 0);
        x.bottle(0, 10);
        return x;
    }

    /** 20 units are 11 years old, the others 9. */
    static Springward mixedAges(int units) {
        Springward x = new Springward();
        x.rock(0, 40);
        x.lead(1, Springward.NONE);
        x.well(0, 10000);
        x.pass(1, 20);
        x.pass(1, 0);
        x.pass(1, 19);
        x.pass(8, 0);
        x.bottle(0, units);
        return x;
    }
}
