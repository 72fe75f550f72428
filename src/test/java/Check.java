import java.util.Set;
import java.util.function.Function;
import java.util.function.Supplier;

/** Counts what tests find: each answer that is not the due one is printed. */
final class Check {
    private int right = 0;
    private int wrong = 0;

    void is(String call, Object got, Object due) {
        boolean same = due.equals(got);
        right += same ? 1 : 0;
        wrong += same ? 0 : 1;
        if (!same) {
            System.out.println(call + " answered " + got + ", due is " + due);
        }
    }

    /** Tests that a call throws just this exception, and that nothing is changed then. */
    void raises(String call, MagpieRuns x, Class<? extends Exception> due, Supplier<Object> made) {
        long before = x.digest();
        is(call, outcome(made), "throws." + due.getSimpleName());
        is(call + " changes nothing", x.digest(), before);
    }

    /**
     * Tests that a call is refused with just this exception, and that nothing is changed behind it,
     * of all that another object shows to which the call was not made.
     */
    void refused(String call, Supplier<MagpieRuns> state, Class<? extends Exception> due,
            Function<MagpieRuns, Object> made) {
        MagpieRuns x = state.get();
        is(call, outcome(() -> made.apply(x)), "throws." + due.getSimpleName());
        is(call + " changes nothing", Whole.everything(x), Whole.everything(state.get()));
    }

    /** Tests that a call is refused for the state in just these moments. */
    void refusedIn(Set<Moment> moments, String call, Function<MagpieRuns, Object> made) {
        for (Moment moment : Moment.values()) {
            if (moments.contains(moment)) {
                refused(call + " " + moment, moment::made, STATE, made);
            } else {
                answers(call + " " + moment, moment.made(), made);
            }
        }
    }

    /** Tests that a call throws nothing. */
    void answers(String call, MagpieRuns x, Function<MagpieRuns, Object> made) {
        Object answer = outcome(() -> made.apply(x));
        is(call + " answered " + answer + ", so that it is refused", isRefusal(answer), false);
    }

    /** Tests that a call saves a state, and that undo goes back behind it to all that was. */
    void undoable(String call, Supplier<MagpieRuns> state, Function<MagpieRuns, Object> made) {
        MagpieRuns x = state.get();
        int saved = x.savedStates();
        is(call + ": fewer than five states are saved ahead of it", saved < 5, true);
        answers(call, x, made);
        is(call + " saves a state", x.savedStates(), saved + 1);
        is("undo of " + call, x.undo(), saved);
        is("all is as before " + call, Whole.everything(x), Whole.everything(state.get()));
    }

    private static boolean isRefusal(Object answer) {
        return answer instanceof String text && text.startsWith("throws.");
    }

    int answers() {
        return right + wrong;
    }

    int wrong() {
        return wrong;
    }

    /** The answer of a call, or the name of the exception that it throws. */
    static Object outcome(Supplier<Object> made) {
        try {
            return made.get();
        } catch (RuntimeException e) {
            return "throws." + e.getClass().getSimpleName();
        }
    }

    /** Ends the test program, with exit code 1 if an answer was not the due one. */
    void end(String test) {
        System.out.println(test + ": " + right + " answers as due, " + wrong + " not");
        if (wrong != 0) {
            System.exit(1);
        }
    }

    static final Class<IndexOutOfBoundsException> BOUNDS = IndexOutOfBoundsException.class;
    static final Class<IllegalArgumentException> ARGUMENT = IllegalArgumentException.class;
    static final Class<IllegalStateException> STATE = IllegalStateException.class;
}
