import java.util.Random;

/** Long runs of calls, of many kinds, each answered by the program and by the model. */
public final class ModelTest {
    private static final int[] ODD = {-1, -2, 10, 11, 40, 41, 300, 301, 1000, 1001, 10001, 100001,
        Integer.MIN_VALUE, Integer.MAX_VALUE};

    private final Random dice;
    private final Springward x = new Springward();
    private final Model m = new Model();
    private final int run;
    private final int mostRain;
    private final int mostYears;
    private final int mostUnits;
    private final int oddness;
    private final int compounds;
    private final StringBuilder calls = new StringBuilder();

    private ModelTest(int run, int mostRain) {
        this.run = run;
        dice = new Random(run);
        this.mostRain = mostRain;
        mostYears = 1 + dice.nextInt(6);
        mostUnits = 1 + dice.nextInt(dice.nextBoolean() ? 12 : 300);
        oddness = dice.nextInt(3) == 0 ? 6 : 40;
        compounds = dice.nextInt(2) == 0 ? 1 : 8;
    }

    public static void main(String[] args) {
        for (int run = 0; run < 600; run++) {
            new ModelTest(run, run % 20 == 0 ? 1000 : run % 3 == 0 ? 100 : 12).play();
        }
        Check.end();
    }

    private void play() {
        for (int i = 0; i < 14; i++) {
            mountainCall();
        }
        for (int i = 0; i < 6; i++) {
            wellCall();
        }
        for (int i = 20; i < 505; i++) {
            int kind = dice.nextInt(100);
            if (kind < 14) {
                mountainCall();
            } else if (kind < 28) {
                passCall();
            } else if (kind < 48) {
                wellCall();
            } else {
                question();
            }
        }
    }

    private int odd(int value) {
        return dice.nextInt(oddness) == 0 ? ODD[dice.nextInt(ODD.length)] : value;
    }

    private int number(int most) {
        return odd(dice.nextInt(most + 1));
    }

    private int lot() {
        return odd(dice.nextInt(2) == 0 ? dice.nextInt(40) : dice.nextInt(12));
    }

    private int well() {
        return odd(dice.nextInt(dice.nextInt(3) == 0 ? 7 : 3));
    }

    private interface Answer {
        Object get();
    }

    private void same(String call, Answer program, Answer model) {
        String got = answer(program);
        String want = answer(model);
        if (!got.equals(want)) {
            System.out.println("run " + run + ":" + calls);
        }
        calls.append(' ').append(call).append('=').append(want);
        Check.equal("run " + run + ": " + call, got, want);
    }

    private static String answer(Answer asked) {
        return Check.answer(null, none -> asked.get());
    }

    private void passCall() {
        int years = odd(1 + dice.nextInt(mostYears));
        int rain = odd(dice.nextInt(5) == 0 ? 0 : dice.nextInt(mostRain + 1));
        same("pass(" + years + "," + rain + ")", () -> x.pass(years, rain), () -> m.pass(years, rain));
    }

    private void mountainCall() {
        int cell = number(9);
        int kind = dice.nextInt(12);
        if (kind < 2) {
            int years = odd(1 + dice.nextInt(dice.nextInt(2) == 0 ? 6 : 41));
            same("rock(" + cell + "," + years + ")", () -> x.rock(cell, years), () -> m.rock(cell, years));
        } else if (kind < 4) {
            int land = odd(dice.nextInt(4) == 0 ? dice.nextInt(4) : 2);
            same("land(" + cell + "," + land + ")", () -> x.land(cell, land), () -> m.land(cell, land));
        } else if (kind < 5) {
            int to = odd(dice.nextInt(4) == 0 ? dice.nextInt(12) - 2 : dice.nextInt(Math.floorMod(cell, 10) + 1) - 1);
            same("lead(" + cell + "," + to + ")", () -> x.lead(cell, to), () -> m.lead(cell, to));
        } else if (kind < 10) {
            int compound = number(compounds);
            same("spill(" + cell + "," + compound + ")", () -> x.spill(cell, compound),
                    () -> m.spill(cell, compound));
        } else {
            int years = odd(dice.nextInt(dice.nextInt(5) == 0 ? 32 : 4));
            int pay = odd(dice.nextInt(1002));
            same("contract(" + cell + "," + years + "," + pay + ")", () -> {
                x.contract(cell, years, pay);
                return "nothing";
            }, () -> m.contract(cell, years, pay));
        }
    }

    private void wellCall() {
        int kind = dice.nextInt(22);
        if (kind < 2) {
            int cell = number(9);
            int permit = odd(dice.nextInt(dice.nextInt(3) == 0 ? 10001 : 300));
            same("well(" + cell + "," + permit + ")", () -> x.well(cell, permit), () -> m.well(cell, permit));
        } else if (kind < 3) {
            int cell = number(9);
            int first = odd(dice.nextInt(mostRain * 8));
            int second = odd(dice.nextInt(4) == 0 ? first + 1 : dice.nextInt(Math.max(1, Math.min(first, 99999) + 1)));
            same("drought(" + cell + "," + first + "," + second + ")", () -> {
                x.drought(cell, first, second);
                return "nothing";
            }, () -> m.drought(cell, first, second));
        } else if (kind < 4) {
            int cents = odd(dice.nextInt(102));
            same("share(" + cents + ")", () -> x.share(cents), () -> m.share(cents));
        } else if (kind < 12) {
            int well = well();
            int units = odd(1 + dice.nextInt(mostUnits));
            same("bottle(" + well + "," + units + ")", () -> x.bottle(well, units), () -> m.bottle(well, units));
        } else if (kind < 16) {
            int lot = lot();
            int treatment = odd(dice.nextInt(dice.nextInt(2) == 0 ? 2 : 7));
            same("treat(" + lot + "," + treatment + ")", () -> x.treat(lot, treatment),
                    () -> m.treat(lot, treatment));
        } else if (kind < 21) {
            int lot = lot();
            int water = odd(dice.nextInt(4));
            same("label(" + lot + "," + water + ")", () -> x.label(lot, water), () -> m.label(lot, water));
        } else {
            int treatment = number(6);
            same("forbid(" + treatment + ")", () -> x.forbid(treatment), () -> m.forbid(treatment));
        }
    }

    private void question() {
        int kind = dice.nextInt(16);
        int lot = lot();
        int cell = number(9);
        if (kind < 2) {
            int what = number(7);
            same("cellOf(" + cell + "," + what + ")", () -> x.cellOf(cell, what), () -> m.cellOf(cell, what));
        } else if (kind < 4) {
            int what = number(4);
            same("flow(" + what + ")", () -> x.flow(what), () -> m.flow(what));
        } else if (kind < 5) {
            int well = well();
            int what = number(4);
            same("wellOf(" + well + "," + what + ")", () -> x.wellOf(well, what), () -> m.wellOf(well, what));
        } else if (kind < 7) {
            int what = number(11);
            same("lotOf(" + lot + "," + what + ")", () -> x.lotOf(lot, what), () -> m.lotOf(lot, what));
        } else if (kind < 8) {
            same("age(" + lot + ")", () -> x.age(lot), () -> m.age(lot));
        } else if (kind < 9) {
            same("best(" + lot + ")", () -> x.best(lot), () -> m.best(lot));
        } else if (kind < 11) {
            fromBoth(lot, cell);
        } else if (kind < 14) {
            int compound = number(compounds);
            same("whence(" + lot + "," + compound + ")", () -> x.whence(lot, compound),
                    () -> m.whence(lot, compound));
        } else if (kind < 15) {
            int what = number(7);
            same("sum(" + what + ")", () -> x.sum(what), () -> m.sum(what));
        } else {
            same("year()", () -> x.year(), () -> m.year());
        }
    }

    // Asks for water that is in the lot, if there is such a lot, as most years would answer 0.
    private void fromBoth(int lot, int cell) {
        int place = cell;
        int year = odd(dice.nextInt(m.year() + 1));
        if (dice.nextInt(4) > 0) {
            for (int tries = 0; tries < 200 && "0".equals(fallen(lot, place, year)); tries++) {
                place = dice.nextInt(10);
                year = dice.nextInt(m.year() + 1);
            }
        }
        int atCell = place;
        int inYear = year;
        same("from(" + lot + "," + atCell + "," + inYear + ")", () -> x.from(lot, atCell, inYear),
                () -> m.from(lot, atCell, inYear));
        same("fromAnew(" + lot + "," + atCell + "," + inYear + ")", () -> x.fromAnew(lot, atCell, inYear),
                () -> m.from(lot, atCell, inYear));
    }

    private String fallen(int lot, int cell, int year) {
        return answer(() -> m.from(lot, cell, year));
    }
}
