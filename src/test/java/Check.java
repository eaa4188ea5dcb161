import java.util.function.IntSupplier;

/** Compares answers with those that are due, prints the wrong ones and counts them. */
final class Check {
    private static int wrong = 0;
    private static String place = "";

    private Check() {
    }

    /** Runs the test of one sentence of the document; what is wrong in it is told by that sentence. */
    static void sentence(String where, String text, Runnable test) {
        place = where + ", \"" + text + "\": ";
        try {
            test.run();
        } catch (RuntimeException e) {
            tell("the test", "throws " + e, "an end");
        }
        place = "";
    }

    static void same(String what, long got, long due) {
        if (got != due) {
            tell(what, String.valueOf(got), String.valueOf(due));
        }
    }

    static void same(String what, boolean got, boolean due) {
        same(what, got ? 1 : 0, due ? 1 : 0);
    }

    static void same(String what, String got, String due) {
        if (!got.equals(due)) {
            tell(what, got, due);
        }
    }

    static void throwing(String what, Class<? extends RuntimeException> due, IntSupplier call) {
        same(what, answer(call), "throws " + due.getSimpleName());
    }

    /** The answer of a call as a text; an exception counts by its very class, not by one above it. */
    static String answer(IntSupplier call) {
        try {
            return String.valueOf(call.getAsInt());
        } catch (RuntimeException e) {
            return "throws " + e.getClass().getSimpleName();
        }
    }

    static int[] row(int... numbers) {
        return numbers;
    }

    /** The counts from 4 on: wholes, gone through, greatest level, steps, steps back, stuck, sums. */
    static void counts(String name, StateExplore x, int... due) {
        for (int i = 0; i < due.length; i++) {
            same(name + ": count(" + (4 + i) + ")", x.count(4 + i), due[i]);
        }
    }

    /** The numbers of a whole: its states, and its codes. */
    static void numbers(String name, StateExplore x, int k, int[] states, int... codes) {
        for (int i = 0; i < states.length; i++) {
            same(name + ": node(" + k + ", " + i + ")", x.node(k, i), states[i]);
        }
        same(name + ": whole(" + k + ", 0)", x.whole(k, 0), codes.length);
        for (int i = 0; i < codes.length; i++) {
            same(name + ": code(" + k + ", " + i + ")", x.code(k, i), codes[i]);
        }
    }

    /** Of a whole its level, where it came from, the rule, its steps, its ways to be numbered. */
    static void facts(String name, StateExplore x, int k, int... due) {
        for (int i = 0; i < due.length; i++) {
            same(name + ": whole(" + k + ", " + (1 + i) + ")", x.whole(k, 1 + i), due[i]);
        }
    }

    private static void tell(String what, String got, String due) {
        wrong++;
        if (wrong <= 50) {
            System.out.println(place + what + " answered " + got + ", due is " + due);
        }
    }

    static void end(String name) {
        System.out.println(name + ": " + (wrong == 0 ? "all answers are as due" : wrong + " answers are not as due"));
        if (wrong != 0) {
            System.exit(1);
        }
    }
}
