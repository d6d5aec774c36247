import java.util.function.LongSupplier;

/** Counts and prints what does not answer as is due; a test makes one and ends with end(). */
final class Checks {
    private int made = 0;
    private int wrong = 0;

    void due(String call, long want, LongSupplier asked) {
        made++;
        String got;
        try {
            long answer = asked.getAsLong();
            if (answer == want) {
                return;
            }
            got = "answered " + answer;
        } catch (RuntimeException e) {
            got = "threw " + e.getClass().getName();
        }
        tell(call + " " + got + ", due is " + want);
    }

    void holds(String call, boolean want, java.util.function.BooleanSupplier asked) {
        due(call, want ? 1 : 0, () -> asked.getAsBoolean() ? 1 : 0);
    }

    void passes(String call, Runnable action) {
        due(call, 0, () -> {
            action.run();
            return 0;
        });
    }

    /** The class must be the very one: what the machine throws by itself is a subclass of it. */
    void thrown(String call, Class<? extends RuntimeException> want, Runnable action) {
        made++;
        String got;
        try {
            action.run();
            got = "threw nothing";
        } catch (RuntimeException e) {
            if (e.getClass() == want) {
                return;
            }
            got = "threw " + e.getClass().getName();
        }
        tell(call + " " + got + ", due is " + want.getName());
    }

    /** An answer that was got already, as text; due is null where any answer will do. */
    void same(String call, String due, String got, boolean right) {
        made++;
        if (!right) {
            tell(call + " answered " + got + ", due is " + (due == null ? "no exception" : due));
        }
    }

    void noSuch(String call, Runnable action) {
        thrown(call, IndexOutOfBoundsException.class, action);
    }

    void badArgument(String call, Runnable action) {
        thrown(call, IllegalArgumentException.class, action);
    }

    void badState(String call, Runnable action) {
        thrown(call, IllegalStateException.class, action);
    }

    void tell(String what) {
        wrong++;
        if (wrong <= 50) {
            System.out.println(what);
        }
    }

    void end() {
        System.out.println(made + " checks, " + wrong + " wrong");
        if (wrong != 0) {
            System.exit(1);
        }
    }
}
