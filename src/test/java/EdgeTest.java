import java.io.IOException;
import java.nio.file.Path;

/** Each sentence of the document that names an edge; and that none of them was forgotten. */
public final class EdgeTest {
    private EdgeTest() {
    }

    /** The argument is the folder that has DOC.md. */
    public static void main(String[] args) throws IOException {
        Checker checker = new Checker("EdgeTest");
        Document document = new Document(Path.of(args.length > 0 ? args[0] : "../shared").resolve("DOC.md"));
        Edges edges = new Edges(checker, document);
        new TreeEdges(edges).check();
        new StyleEdges(edges).check();
        new BlockEdges(edges).check();
        new LineEdges(edges).check();
        new FloatEdges(edges).check();
        new MovedEdges(edges).check();
        new WouldBeEdges(edges).check();
        new RefusalEdges(edges).check();
        statesDiffer(checker);
        noneIsForgotten(checker, document);
        checker.end();
    }

    /** The refused calls are compared with no call: what would be changed has to be seen by that. */
    private static void statesDiffer(Checker checker) {
        Scene[] changes = {v -> v.addElement(11, 0), v -> v.addText(11), v -> v.addWord(Scenes.HIDDEN_TEXT, 1),
            v -> v.takeAway(Scenes.HIDDEN_TEXT), v -> v.move(Scenes.LAST_ELEMENT, 0, 0), v -> v.setClass(11, 4, true),
            v -> v.setClass(Scenes.BLOCK, 1, false), v -> v.setName(11, 3), v -> v.addRule(0, 1, false),
            v -> v.addPart(2, -1, -1, 0, false), v -> v.turn(2), v -> v.declare(11, 3, 5), v -> v.declare(11, 1, 9998),
            v -> v.setView(301), v -> v.scroll(11, 4)};
        String before = State.after(Scenes.MIXED, v -> { });
        for (int i = 0; i < changes.length; i++) {
            checker.same("change " + i + " is seen", State.after(Scenes.MIXED, changes[i]).equals(before), false);
        }
        checker.same("no change", State.after(Scenes.MIXED, v -> v.digest()).equals(before), true);
    }

    private static void noneIsForgotten(Checker checker, Document document) {
        for (String sentence : document.unquotedTerms()) {
            checker.same("a test of \"" + sentence + "\"", "none", "one");
        }
        for (String line : document.unquotedPromises()) {
            checker.same("a test of promise " + line, "none", "one");
        }
        checker.same("promises in the document", document.promises(), 44);
        for (int promise = 1; promise <= document.promises(); promise++) {
            checker.same("a test of promise " + promise, document.hasQuoteOf(promise), true);
        }
    }
}
