/** Compares answers with those that are due, and counts the wrong ones. */
final class Check {
    static final String INDEX = "throws.IndexOutOfBoundsException";
    static final String ARGUMENT = "throws.IllegalArgumentException";
    static final String STATE = "throws.IllegalStateException";

    private static int asked = 0;
    private static int wrong = 0;

    private Check() {
    }

    interface Call {
        Object on(Springward x);
    }

    interface Make {
        Springward make();
    }

    // The exception's own class counts: what the machine throws is of a class below the due one.
    static String answer(Springward x, Call call) {
        try {
            return String.valueOf(call.on(x));
        } catch (RuntimeException e) {
            return "throws." + e.getClass().getSimpleName();
        }
    }

    static void equal(String what, String got, String want) {
        asked++;
        if (!got.equals(want)) {
            wrong++;
            System.out.println(what + " answered " + got + ", due is " + want);
        }
    }

    static void due(String what, Object want, Springward x, Call call) {
        equal(what, answer(x, call), String.valueOf(want));
    }

    /** The call must throw as told, and an object after it must be as one without it. */
    static void refused(String what, String exception, Make maker, Call call) {
        Springward x = maker.make();
        due(what, exception, x, call);
        equal(what + ": all that is told behind it", Story.of(x), Story.of(maker.make()));
    }

    static void end() {
        System.out.println(asked + " answers looked at, " + wrong + " wrong");
        if (wrong != 0 || asked == 0) {
            System.exit(1);
        }
    }
}
