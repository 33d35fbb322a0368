import java.util.function.BooleanSupplier;
import java.util.function.LongSupplier;

/** Prints every answer that is not as due, and ends with exit code 1 if there was one. */
final class Checks {
    private final String name;
    private int looked;
    private int wrong;

    Checks(String name) {
        this.name = name;
    }

    void due(String what, long want, LongSupplier call) {
        report(what, Long.toString(want), outcome(call));
    }

    void yes(String what, BooleanSupplier call) {
        due(what, 1, () -> call.getAsBoolean() ? 1 : 0);
    }

    void no(String what, BooleanSupplier call) {
        due(what, 0, () -> call.getAsBoolean() ? 1 : 0);
    }

    void badNumber(String what, Runnable call) {
        report(what, "throws.IndexOutOfBoundsException", outcome(() -> run(call)));
    }

    void badArgument(String what, Runnable call) {
        report(what, "throws.IllegalArgumentException", outcome(() -> run(call)));
    }

    void badState(String what, Runnable call) {
        report(what, "throws.IllegalStateException", outcome(() -> run(call)));
    }

    void report(String what, String want, String got) {
        looked++;
        if (!want.equals(got)) {
            wrong++;
            System.out.println(name + ": " + what + " answered " + got + ", due is " + want);
        }
    }

    void end() {
        System.out.println(name + ": " + looked + " answers looked at, " + wrong + " not as due");
        if (wrong != 0 || looked == 0) {
            System.exit(1);
        }
    }

    private static long run(Runnable call) {
        call.run();
        return 0;
    }

    // The class must be the very one that the document names: one below it comes from the machine.
    static String outcome(LongSupplier call) {
        try {
            return Long.toString(call.getAsLong());
        } catch (RuntimeException thrown) {
            return "throws." + thrown.getClass().getSimpleName();
        }
    }
}
