import java.util.IdentityHashMap;
import java.util.Map;

/** Checks of sentences of the document: each check is one of the sentence that was quoted last. */
final class Edges {
    final Checker checker;
    private final Document document;
    private final Map<Scene, String> untouched = new IdentityHashMap<>();
    private String sentence = "";

    Edges(Checker checker, Document document) {
        this.checker = checker;
        this.document = document;
    }

    /** What follows tests this sentence of "Terms". */
    void terms(int chapter, String words) {
        sentence = "Terms " + chapter + " \"" + words + "\"";
        checker.same(sentence + " stands in the document", document.quoteTerms(chapter, words), true);
    }

    /** What follows tests this sentence of a promise. */
    void promise(int number, String words) {
        sentence = "Promise " + number + " \"" + words + "\"";
        checker.same(sentence + " stands in the document", document.quotePromise(number, words), true);
    }

    void same(String what, Object got, Object due) {
        checker.same(sentence + ": " + what, got, due);
    }

    /** x, y, and how wide and high a box is. */
    void place(String what, PinnaceView v, int node, int x, int y, int wide, int high) {
        same(what + ", the x", v.xOf(node), x);
        same(what + ", the y", v.yOf(node), y);
        same(what + ", how wide", v.wideOf(node), wide);
        same(what + ", how high", v.highOf(node), high);
    }

    void word(String what, PinnaceView v, int text, int word, int x, int y) {
        same(what + ", the x", v.wordX(text, word), x);
        same(what + ", the y", v.wordY(text, word), y);
    }

    /** After the scene, the call throws just this, and nothing is other than without the call. */
    void refuses(String what, Scene scene, Class<?> due, Scene call) {
        PinnaceView v = scene.built();
        same(what + " throws", Checker.thrownBy(() -> call.on(v)), due);
        String before = untouched.computeIfAbsent(scene, s -> State.after(s, nothing -> { }));
        same(what + " changes nothing", State.after(scene, call).equals(before), true);
    }

    /** After the scene, the call throws nothing. */
    void allows(String what, Scene scene, Scene call) {
        PinnaceView v = scene.built();
        same(what + " is allowed", Checker.thrownBy(() -> call.on(v)), null);
    }
}
