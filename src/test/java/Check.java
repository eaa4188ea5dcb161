import java.util.function.IntSupplier;

/** Compares answers with those that are due, prints the wrong ones and counts them. */
final class Check {
    private static int wrong = 0;

    private Check() {
    }

    static void same(String what, long got, long due) {
        if (got != due) {
            tell(what, String.valueOf(got), String.valueOf(due));
        }
    }

    static void same(String what, boolean got, boolean due) {
        same(what, got ? 1 : 0, due ? 1 : 0);
    }

    static void same(String what, String got, String due) {
        if (!got.equals(due)) {
            tell(what, got, due);
        }
    }

    static void throwing(String what, Class<? extends RuntimeException> due, IntSupplier call) {
        same(what, answer(call), "throws " + due.getSimpleName());
    }

    /** The answer of a call as a text; an exception counts by its very class, not by one above it. */
    static String answer(IntSupplier call) {
        try {
            return String.valueOf(call.getAsInt());
        } catch (RuntimeException e) {
            return "throws " + e.getClass().getSimpleName();
        }
    }

    private static void tell(String what, String got, String due) {
        wrong++;
        if (wrong <= 50) {
            System.out.println(what + " answered " + got + ", due is " + due);
        }
    }

    static void end(String name) {
        System.out.println(name + ": " + (wrong == 0 ? "all answers are as due" : wrong + " answers are not as due"));
        if (wrong != 0) {
            System.exit(1);
        }
    }
}
