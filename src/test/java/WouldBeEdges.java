import java.math.BigInteger;
import java.util.ArrayList;
import java.util.List;

/** Edges of what would be, and of the checksum: promises 42 to 44. */
final class WouldBeEdges extends Build {
    private final Edges edges;

    WouldBeEdges(Edges edges) {
        this.edges = edges;
    }

    void check() {
        heightIn();
        heightInChangesNothing();
        changedByNothing();
        changedByAll();
        changedByOrder();
        changedByEachProperty();
        digestOfEach();
        digestWrapsAround();
        digestTellsAll();
    }

    private void heightIn() {
        edges.promise(42, "Returns what pageHeight() would be.");
        PinnaceView v = new PinnaceView();
        edges.same("nothing, 20", v.heightIn(20), 0);
        edges.same("nothing, 2000", v.heightIn(2000), 0);
        int text = v.addText(0);
        for (int i = 0; i < 20; i++) {
            v.addWord(text, 12);
        }
        int[][] views = {{20, 320}, {96, 320}, {199, 320}, {200, 160}, {400, 112}, {1999, 32}, {2000, 32}};
        for (int[] view : views) {
            edges.same("in " + view[0], v.heightIn(view[0]), view[1]);
            edges.same("as it is", v.pageHeight(), 112);
        }
        for (int[] view : views) {
            v.setView(view[0]);
            edges.same("now it is", v.pageHeight(), view[1]);
            edges.same("in as much as it is", v.heightIn(view[0]), view[1]);
        }
        v.declare(0, FONT, 7);
        edges.same("all in one line, not in 1999 but one", v.heightIn(1812), 28);
        edges.same("all in one line", v.heightIn(1813), 14);
    }

    private void heightInChangesNothing() {
        edges.promise(42, "Returns what pageHeight() would be.");
        PinnaceView v = Scenes.MIXED.built();
        long before = v.digest();
        edges.same("another one", v.heightIn(20) == v.heightIn(2000), false);
        edges.same("nothing is changed", v.digest(), before);
        v.heightIn(2000);
        edges.same("words", v.wordX(Scenes.TEXT, 0), Scenes.MIXED.built().wordX(Scenes.TEXT, 0));
        v.heightIn(20);
        edges.same("mean", v.meanLine(), Scenes.MIXED.built().meanLine());
        v.heightIn(20);
        edges.same("seen", v.seen(Scenes.FULL_TEXT), Scenes.MIXED.built().seen(Scenes.FULL_TEXT));
        v.heightIn(2000);
        edges.same("hit", v.hit(299, 5), Scenes.MIXED.built().hit(299, 5));
        edges.same("the view", v.setView(20), 300);
    }

    private static final String CHANGED = "Returns of how many nodes something of all properties would be other, "
            + "if the rule were turned (see turn()).";

    private void changedByNothing() {
        edges.promise(43, CHANGED);
        PinnaceView v = new PinnaceView();
        int noParts = v.addRule(COLOR, 5, true);
        edges.same("no parts", v.changedBy(noParts), 0);
        int first = ruleForAll(v, COLOR, 0, false);
        edges.same("the value that it has anyway", v.changedBy(first), 0);
        int parent = ruleForAll(v, FONT, 9999, false);
        edges.same("what the root has anyway", v.changedBy(parent), 0);
        int other = v.addRule(COLOR, 9, false);
        v.addPart(other, 7, -1, 0, false);
        edges.same("none that it matches", v.changedBy(other), 0);
        v.turn(noParts);
        edges.same("nor off", v.changedBy(noParts), 0);
    }

    private void changedByAll() {
        edges.promise(43, CHANGED);
        PinnaceView v = new PinnaceView();
        for (int i = 1; i < 40; i++) {
            if (i % 3 == 0) {
                v.addText(0);
            } else {
                v.addElement(0, 1);
            }
        }
        int color = v.addRule(COLOR, 5, false);
        v.addPart(color, 0, -1, 0, false);
        edges.same("of the root, and all inherit it", v.changedBy(color), 40);
        edges.same("as often as one asks", v.changedBy(color), 40);
        edges.same("it is still on", v.styleOf(39, COLOR), 5);
        v.turn(color);
        edges.same("being off, as much", v.changedBy(color), 40);
        edges.same("it is still off", v.styleOf(39, COLOR), 0);
        v.takeAway(39);
        edges.same("not of those gone", v.changedBy(color), 39);
        int top = ruleForAll(v, TOP, 1, false);
        edges.same("of elements alone", v.changedBy(top), 27);
        v.declare(1, TOP, 1);
        v.declare(2, TOP, 3);
        edges.same("not of those that declare it", v.changedBy(top), 25);
        v.takeAway(1);
        edges.same("nor of those gone", v.changedBy(top), 25);
        edges.same("the rule stays on", v.turn(top), false);
    }

    private void changedByOrder() {
        edges.promise(43, CHANGED);
        PinnaceView v = new PinnaceView();
        v.addElement(0, 1);
        int light = ruleForAll(v, COLOR, 5, false);
        int heavy = v.addRule(COLOR, 6, false);
        v.addPart(heavy, 1, -1, 0, false);
        edges.same("behind a heavier one", v.changedBy(light), 1);
        edges.same("ahead of the light one", v.changedBy(heavy), 1);
        int same = v.addRule(COLOR, 6, false);
        v.addPart(same, 1, -1, 0, false);
        edges.same("another reason alone", v.changedBy(same), 0);
        edges.same("nor the one behind that", v.changedBy(heavy), 0);
        int strong = ruleForAll(v, COLOR, 6, true);
        edges.same("STRONG, where it is other", v.changedBy(strong), 1);
        edges.same("behind the STRONG one", v.changedBy(light), 0);
        v.turn(strong);
        edges.same("STRONG, but off", v.changedBy(strong), 1);
        v.declare(1, COLOR, 9998);
        v.declare(0, COLOR, 6);
        edges.same("the element's own ahead of it", v.changedBy(light), 0);
    }

    private void changedByEachProperty() {
        edges.promise(43, CHANGED);
        for (int p = 0; p < PROPERTIES; p++) {
            boolean isInherited = p == COLOR || p == FONT || p == ALIGN;
            PinnaceView v = new PinnaceView();
            v.addText(v.addElement(0, 1));
            int value = FIRST[p] == GREATEST[p] ? LEAST[p] : GREATEST[p];
            int rule = v.addRule(p, value, false);
            v.addPart(rule, 1, -1, 0, false);
            edges.same("property " + p, v.changedBy(rule), isInherited ? 2 : 1);
            edges.same("nothing is changed by asking", v.styleOf(1, p), value);
        }
    }

    private static final String DIGEST = "A number d starts with 58030; for each of the following numbers x, d becomes d * 31 + x, "
            + "which wraps around as a 64-bit integer (whether something is so counts 1 or 0): added(), nodes(), rules(), "
            + "pageHeight(); then, by rising numbers, for each node that is not GONE its number, isText(), parent(), size(), "
            + "sortOf(), xOf(), yOf(), wideOf(), highOf(), reachOf(), scrolled(), lines(), styleOf() of each property, and of "
            + "a text, word by word, wordX() and wordY(), and then seen(); then for each rule weight(), matched().";

    private void digestOfEach() {
        edges.promise(44, DIGEST);
        Scene[] scenes = {Scenes.NEW, Scenes.MIXED, Scenes.FULL, Scenes.ALL_BUT_ONE, Scenes.DEEP};
        for (int i = 0; i < scenes.length; i++) {
            List<Long> numbers = numbersOf(scenes[i]);
            BigInteger sum = sumOf(numbers);
            edges.same("scene " + i + ", number by number", scenes[i].built().digest(), sum.longValue());
            PinnaceView v = scenes[i].built();
            edges.same("once more", v.digest() == v.digest(), true);
        }
    }

    private void digestWrapsAround() {
        edges.promise(44, "which wraps around as a 64-bit integer");
        BigInteger sum = sumOf(numbersOf(Scenes.NEW));
        edges.same("the sum is far from a 64-bit integer", sum.bitLength() > 64, true);
        BigInteger rest = sum.mod(BigInteger.ONE.shiftLeft(64));
        BigInteger due = rest.testBit(63) ? rest.subtract(BigInteger.ONE.shiftLeft(64)) : rest;
        edges.same("wrapped around", BigInteger.valueOf(new PinnaceView().digest()), due);
        int below = 0;
        int above = 0;
        for (int name = 20; name < 120; name++) {
            PinnaceView v = wide(name);
            if (v.digest() < 0) {
                below++;
            } else {
                above++;
            }
        }
        edges.same("some below 0", below > 10, true);
        edges.same("some above", above > 10, true);
    }

    private void digestTellsAll() {
        edges.promise(44, "Returns d.");
        PinnaceView v = Scenes.MIXED.built();
        long before = v.digest();
        v.scroll(Scenes.SCROLLING, 10);
        edges.same("an OFFSET", v.digest() == before, false);
        v.scroll(Scenes.SCROLLING, 9);
        edges.same("the OFFSET as before", v.digest(), before);
        v.declare(Scenes.LAST_ELEMENT, COLOR, 1);
        edges.same("a COLOR of what is not SHOWN", v.digest() == before, false);
        v.declare(Scenes.LAST_ELEMENT, COLOR, 9998);
        edges.same("the COLOR as before", v.digest(), before);
        v.setName(Scenes.SCROLLING, 7);
        edges.same("a name that no rule asks for", v.digest(), before);
        v.turn(2);
        edges.same("a rule that matches nothing, off", v.digest(), before);
        v.addElement(0, 0);
        v.takeAway(Scenes.ADDED);
        edges.same("added and taken away", v.digest() == before, false);
    }

    private static BigInteger sumOf(List<Long> numbers) {
        BigInteger sum = BigInteger.valueOf(58030);
        for (long x : numbers) {
            sum = sum.multiply(BigInteger.valueOf(31)).add(BigInteger.valueOf(x));
        }
        return sum;
    }

    /** Each node is asked of an object of its own, as one is used for at most 512 calls. */
    private static List<Long> numbersOf(Scene scene) {
        List<Long> all = new ArrayList<>();
        PinnaceView first = scene.built();
        all.add((long) first.added());
        all.add((long) first.nodes());
        all.add((long) first.rules());
        all.add((long) first.pageHeight());
        for (int node = 0; node < first.added(); node++) {
            PinnaceView v = scene.built();
            if (v.isThere(node)) {
                addNumbersOf(v, node, all);
            }
        }
        PinnaceView last = scene.built();
        for (int rule = 0; rule < last.rules(); rule++) {
            all.add((long) last.weight(rule));
            all.add((long) last.matched(rule));
        }
        return all;
    }

    private static void addNumbersOf(PinnaceView v, int node, List<Long> all) {
        int[] numbers = {node, v.isText(node) ? 1 : 0, v.parent(node), v.size(node), v.sortOf(node), v.xOf(node), v.yOf(node),
            v.wideOf(node), v.highOf(node), v.reachOf(node), v.scrolled(node), v.lines(node)};
        for (int number : numbers) {
            all.add((long) number);
        }
        for (int property = 0; property < PROPERTIES; property++) {
            all.add((long) v.styleOf(node, property));
        }
        if (v.isText(node)) {
            for (int word = 0; word < v.size(node); word++) {
                all.add((long) v.wordX(node, word));
                all.add((long) v.wordY(node, word));
            }
            all.add((long) v.seen(node));
        }
    }
}
