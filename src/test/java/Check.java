import java.util.function.Supplier;

/** Counts what tests find: each answer that is not the due one is printed. */
final class Check {
    private int right = 0;
    private int wrong = 0;

    void is(String call, Object got, Object due) {
        boolean same = due.equals(got);
        right += same ? 1 : 0;
        wrong += same ? 0 : 1;
        if (!same) {
            System.out.println(call + " answered " + got + ", due is " + due);
        }
    }

    /** Tests that a call throws just this exception, and that nothing is changed then. */
    void raises(String call, MagpieRuns x, Class<? extends Exception> due, Supplier<Object> made) {
        long before = x.digest();
        is(call, outcome(made), "throws." + due.getSimpleName());
        is(call + " changes nothing", x.digest(), before);
    }

    /** The answer of a call, or the name of the exception that it throws. */
    static Object outcome(Supplier<Object> made) {
        try {
            return made.get();
        } catch (RuntimeException e) {
            return "throws." + e.getClass().getSimpleName();
        }
    }

    /** Ends the test program, with exit code 1 if an answer was not the due one. */
    void end(String test) {
        System.out.println(test + ": " + right + " answers as due, " + wrong + " not");
        if (wrong != 0) {
            System.exit(1);
        }
    }

    static final Class<IndexOutOfBoundsException> BOUNDS = IndexOutOfBoundsException.class;
    static final Class<IllegalArgumentException> ARGUMENT = IllegalArgumentException.class;
    static final Class<IllegalStateException> STATE = IllegalStateException.class;
}
