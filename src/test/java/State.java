import java.util.ArrayList;
import java.util.List;

/**
 * All that can be known of an object that a scene builds, as one text: what it answers, and what calls that
 * change it tell of what was there before. As an object is used for at most 512 calls, the scene is built
 * anew for every few of these.
 */
final class State {
    private static final int CALLS_A_TIME = 150;
    private final List<Probe> probes = new ArrayList<>();

    private State() {
    }

    private interface Probe {
        Object ask(PinnaceView v);
    }

    /** After the scene, and one call more, whatever that throws. */
    static String after(Scene scene, Scene call) {
        State state = new State();
        PinnaceView sample = scene.built();
        state.collectQuestions(sample.added(), sample.rules());
        state.collectChanges(sample.added(), sample.rules());
        StringBuilder text = new StringBuilder();
        PinnaceView v = sample;
        for (int i = 0; i < state.probes.size(); i++) {
            if (i % CALLS_A_TIME == 0) {
                PinnaceView anew = scene.built();
                Checker.thrownBy(() -> call.on(anew));
                v = anew;
            }
            text.append(answer(state.probes.get(i), v)).append(' ');
        }
        return text.toString();
    }

    private static Object answer(Probe probe, PinnaceView v) {
        try {
            return probe.ask(v);
        } catch (RuntimeException e) {
            return e.getClass().getSimpleName();
        }
    }

    private void collectQuestions(int nodes, int rules) {
        probes.add(PinnaceView::added);
        probes.add(PinnaceView::nodes);
        probes.add(PinnaceView::rules);
        probes.add(PinnaceView::digest);
        probes.add(PinnaceView::meanLine);
        for (int width : new int[] {20, 77, 400, 2000}) {
            probes.add(v -> v.heightIn(width));
        }
        for (int number = 0; number < nodes; number++) {
            int node = number;
            probes.add(v -> v.isThere(node));
            probes.add(v -> Build.childrenOf(v, node));
            for (int property = 0; property < Build.PROPERTIES; property++) {
                int p = property;
                probes.add(v -> v.because(node, p));
            }
        }
        for (int number = 0; number < rules; number++) {
            int rule = number;
            probes.add(v -> v.changedBy(rule));
            for (int node = 0; node < nodes; node++) {
                int n = node;
                probes.add(v -> v.matches(rule, n));
            }
        }
    }

    private void collectChanges(int nodes, int rules) {
        probes.add(v -> v.setView(400));
        for (int number = 0; number < nodes; number++) {
            int node = number;
            probes.add(v -> v.setName(node, 0));
            probes.add(v -> v.scroll(node, 0));
            for (int i = 0; i < 8; i++) {
                int itsClass = i;
                probes.add(v -> v.setClass(node, itsClass, false));
            }
            for (int i = 0; i < Build.PROPERTIES; i++) {
                int property = i;
                probes.add(v -> v.declare(node, property, 9998));
            }
            probes.add(v -> v.addWord(node, 1));
        }
        for (int number = 0; number < rules; number++) {
            int rule = number;
            probes.add(v -> v.turn(rule));
            probes.add(v -> v.addPart(rule, -1, -1, 0, false));
        }
        probes.add(v -> v.addRule(0, 1, false));
        probes.add(v -> v.addText(0));
        probes.add(v -> v.addElement(0, 0));
    }
}
