import java.util.Objects;

/** Counts what is as due and prints what is not. */
final class Checker {
    private final String title;
    private int passed = 0;
    private int failed = 0;

    Checker(String title) {
        this.title = title;
    }

    interface Call {
        void run();
    }

    void same(String what, Object got, Object due) {
        if (Objects.equals(got, due)) {
            passed++;
        } else {
            failed++;
            System.out.println(title + ": " + what + " is " + got + ", due is " + due);
        }
    }

    /** The call throws exactly this exception, and nothing of the object is other than before. */
    void refuses(String what, PinnaceView view, Class<?> due, Call call) {
        String before = stateOf(view);
        same(what + " throws", thrownBy(call), due);
        same(what + " changes nothing", stateOf(view), before);
    }

    static Class<?> thrownBy(Call call) {
        try {
            call.run();
            return null;
        } catch (RuntimeException e) {
            return isThrownBy("PinnaceView", e) ? e.getClass() : Error.class;
        }
    }

    /** Whether a class itself throws it: a list that is asked for too much throws of its own accord. */
    static boolean isThrownBy(String name, RuntimeException e) {
        StackTraceElement[] trace = e.getStackTrace();
        return trace.length > 0 && trace[0].getClassName().startsWith(name);
    }

    /** What can be asked of an object, as a text. */
    static String stateOf(PinnaceView view) {
        StringBuilder text = new StringBuilder();
        text.append(view.digest()).append(' ').append(view.meanLine());
        for (int width : new int[] {20, 77, 400, 2000}) {
            text.append(' ').append(view.heightIn(width));
        }
        for (int node = 0; node < view.added(); node++) {
            text.append("\n").append(node).append(view.isThere(node));
            if (view.isThere(node)) {
                for (int property = 0; property < 14; property++) {
                    text.append(' ').append(view.because(node, property));
                }
                for (int place = 0; !view.isText(node) && place < view.size(node); place++) {
                    text.append(" >").append(view.childAt(node, place));
                }
                for (int rule = 0; rule < view.rules(); rule++) {
                    text.append(view.matches(rule, node) ? '+' : '-');
                }
            }
        }
        for (int rule = 0; rule < view.rules(); rule++) {
            text.append(' ').append(view.changedBy(rule));
        }
        return text.toString();
    }

    void end() {
        System.out.println(title + ": " + passed + " checks as due, " + failed + " not");
        if (failed > 0) {
            System.exit(1);
        }
    }
}
