import java.util.Objects;

/** Counts what is as due and prints what is not. */
final class Checker {
    private final String title;
    private int passed = 0;
    private int failed = 0;

    Checker(String title) {
        this.title = title;
    }

    interface Call {
        void run();
    }

    void same(String what, Object got, Object due) {
        if (Objects.equals(got, due)) {
            passed++;
        } else {
            failed++;
            System.out.println(title + ": " + what + " is " + got + ", due is " + due);
        }
    }

    /** What a call throws, null if nothing; Error, if the program does not throw it by its own words. */
    static Class<?> thrownBy(Call call) {
        try {
            call.run();
            return null;
        } catch (RuntimeException e) {
            return isThrownBy("PinnaceView", e) ? e.getClass() : Error.class;
        }
    }

    /** Whether a class itself throws it: a list that is asked for too much throws of its own accord. */
    static boolean isThrownBy(String name, RuntimeException e) {
        StackTraceElement[] trace = e.getStackTrace();
        return trace.length > 0 && trace[0].getClassName().startsWith(name);
    }

    void end() {
        System.out.println(title + ": " + passed + " checks as due, " + failed + " not");
        if (failed > 0) {
            System.exit(1);
        }
    }
}
