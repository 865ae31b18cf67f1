import java.util.ArrayList;
import java.util.EnumMap;
import java.util.List;
import java.util.Map;

/** Compares answers with those that are due, and counts the wrong ones. */
final class Check {
    static final String INDEX = "throws.IndexOutOfBoundsException";
    static final String ARGUMENT = "throws.IllegalArgumentException";
    static final String STATE = "throws.IllegalStateException";

    private static final Map<Scene, String> UNTOUCHED = new EnumMap<>(Scene.class);
    private static int asked = 0;
    private static int wrong = 0;

    private Check() {
    }

    interface Call {
        Object on(Springward x);
    }

    interface Make {
        Springward make();
    }

    interface CallOfOne {
        Object on(Springward x, int argument);
    }

    interface Deed {
        void on(Springward x);
    }

    /** A call that answers nothing. */
    static Call deed(Deed deed) {
        return x -> {
            deed.on(x);
            return "nothing";
        };
    }

    // The exception's own class counts: what the machine throws is of a class below the due one.
    static String answer(Springward x, Call call) {
        try {
            return String.valueOf(call.on(x));
        } catch (RuntimeException e) {
            return "throws." + e.getClass().getSimpleName();
        }
    }

    static void equal(String what, String got, String want) {
        asked++;
        if (!got.equals(want)) {
            wrong++;
            System.out.println(what + " answered " + got + ", due is " + want);
        }
    }

    static void due(String what, Object want, Springward x, Call call) {
        equal(what, answer(x, call), String.valueOf(want));
    }

    /** The call must throw as told, and an object after it must be as one without it. */
    static void refused(String what, String exception, Make maker, Call call) {
        due(what, exception, maker.make(), call);
        String untouched = maker instanceof Scene
                ? UNTOUCHED.computeIfAbsent((Scene) maker, Story::whole) : Story.whole(maker);
        equal(what + ": all that is told behind it", Story.whole(() -> {
            Springward x = maker.make();
            answer(x, call);
            return x;
        }), untouched);
    }

    static void refusedIn(Scene[] scenes, String what, String exception, Call call) {
        for (Scene scene : scenes) {
            refused(what + ", " + scene, exception, scene, call);
        }
    }

    /** Refused in whatever state, and nothing is changed by it. */
    static void refusedAnywhere(String what, String exception, Call call) {
        refusedIn(Scene.values(), what, exception, call);
    }

    /** Refused with each of the arguments in whatever state. */
    static void refusedOf(int[] arguments, String what, String exception, CallOfOne call) {
        refusedOf(arguments, Scene.values(), what, exception, call);
    }

    static void refusedOf(int[] arguments, Scene[] scenes, String what, String exception, CallOfOne call) {
        for (int argument : arguments) {
            refusedIn(scenes, what + " of " + argument, exception, x -> call.on(x, argument));
        }
    }

    /** Numbers below and above a range: near to it, far from it, and such as wrap round into it. */
    static int[] outside(int least, int most) {
        List<Integer> all = new ArrayList<>(List.of(least - 1, most + 1, Integer.MIN_VALUE, Integer.MAX_VALUE));
        for (int far : new int[] {least - 2, most + 2, least + 32, least + 256, least + 65536,
            Integer.MIN_VALUE + most, -most}) {
            if ((far < least || far > most) && !all.contains(far)) {
                all.add(far);
            }
        }
        return all.stream().mapToInt(i -> i).toArray();
    }

    static void end() {
        System.out.println(asked + " answers looked at, " + wrong + " wrong");
        if (wrong != 0 || asked == 0) {
            System.exit(1);
        }
    }
}
