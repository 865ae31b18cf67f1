/** Objects in many states. What is no such cell, lot or number is refused in each of them. */
enum Scene implements Check.Make {
    /** Nothing has been called. */
    NEW {
        @Override
        public Springward make() {
            return new Springward();
        }
    },

    /**
     * The year 20. Wells: 0 may take 40 more, 1 may take 31 more, 2 more than its cell has. Lots: 0
     * has no label, 1 is MINERAL, 2 a false SPRING with a compound, 3 TABLE, 4 a false SPRING that
     * is recalled. The treatment 3 is forbidden. Cells: 5 has a contract for 10 years, 6 for one; 1 and 4 are fields without one, 7
     * is grass; the travel from 2 is 4 years and from 3 it is 5; compounds wait on 0 and 8.
     */
    BUSY {
        @Override
        public Springward make() {
            Springward x = new Springward();
            mountain(x);
            x.well(0, 100);
            x.well(1, 61);
            x.well(8, 10000);
            x.pass(5, 10);
            x.spill(1, 5);
            x.pass(15, 10);
            x.share(3);
            x.spill(0, 1);
            x.spill(8, 3);
            lots(x);
            x.forbid(3);
            x.drought(9, 5, 2);
            return x;
        }
    },

    /** As BUSY, but no well may take anything: cell 3 has less than both limits. */
    PARCHED {
        @Override
        public Springward make() {
            Springward x = BUSY.make();
            int has = x.cellOf(3, 0);
            x.drought(3, has + 12, has + 6);
            return x;
        }
    },

    /** As BUSY, but each well may take the half alone, which wells 0 and 1 have taken. */
    HALVED {
        @Override
        public Springward make() {
            Springward x = BUSY.make();
            int has = x.cellOf(3, 0);
            x.drought(3, has + 1, has);
            return x;
        }
    },

    /** As BUSY, but with six wells and forty lots; well 0 may take 5 more. */
    FULL {
        @Override
        public Springward make() {
            Springward x = BUSY.make();
            for (int w = 3; w < 6; w++) {
                x.well(9, 7);
            }
            for (int l = 5; l < 40; l++) {
                x.bottle(0, 1);
            }
            return x;
        }
    },

    /** As BUSY, but in the year 297. */
    LATE {
        @Override
        public Springward make() {
            Springward x = BUSY.make();
            for (int i = 0; i < 13; i++) {
                x.pass(20, i % 3);
            }
            x.pass(17, 4);
            return x;
        }
    },

    /** As LATE, but in the year 300. */
    LAST {
        @Override
        public Springward make() {
            Springward x = LATE.make();
            x.pass(3, 1);
            return x;
        }
    };

    /** All but NEW, in which there are no wells and lots. */
    static final Scene[] USED = {BUSY, PARCHED, HALVED, FULL, LATE, LAST};

    private static void mountain(Springward x) {
        x.rock(0, 40);
        x.rock(1, 40);
        x.rock(2, 4);
        x.lead(1, Springward.NONE);
        x.lead(2, Springward.NONE);
        x.lead(3, Springward.NONE);
        for (int cell : new int[] {1, 4, 5, 6}) {
            x.land(cell, Springward.FIELD);
        }
        x.land(7, Springward.GRASS);
        x.contract(5, 30, 30);
        x.contract(6, 21, 40);
    }

    private static void lots(Springward x) {
        int[][] told = {{0, 20, 4, Springward.NONE}, {0, 20, 0, Springward.MINERAL},
            {1, 30, 1, Springward.SPRING}, {2, 1, 2, Springward.TABLE}, {0, 20, 3, Springward.SPRING}};
        for (int l = 0; l < told.length; l++) {
            x.bottle(told[l][0], told[l][1]);
            x.treat(l, told[l][2]);
            if (told[l][3] != Springward.NONE) {
                x.label(l, told[l][3]);
            }
        }
    }
}
