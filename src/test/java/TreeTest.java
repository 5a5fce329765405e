/** Promises 1 to 8 and 15 to 21: the tree, changed and asked. */
public final class TreeTest extends Build {
    private static final Checker CHECK = new Checker("TreeTest");

    private TreeTest() {
    }

    public static void main(String[] args) {
        newObject();
        addElement();
        addText();
        addWord();
        takeAway();
        move();
        moveKeepsAncestorsFew();
        asDeepAsCanBe();
        setClass();
        setName();
        asked();
        CHECK.end();
    }

    private static void newObject() {
        PinnaceView v = new PinnaceView();
        CHECK.same("1 added", v.added(), 1);
        CHECK.same("1 nodes", v.nodes(), 1);
        CHECK.same("1 rules", v.rules(), 0);
        CHECK.same("1 root is no text", v.isText(0), false);
        CHECK.same("1 root's parent", v.parent(0), -1);
        CHECK.same("1 root's size", v.size(0), 0);
        CHECK.same("1 root is as wide as the view", v.wideOf(0), 400);
        CHECK.same("1 view", v.setView(20), 400);
    }

    private static void addElement() {
        PinnaceView v = new PinnaceView();
        CHECK.same("2 first", v.addElement(0, 0), 1);
        CHECK.same("2 greatest tag", v.addElement(0, 7), 2);
        CHECK.same("2 last child", v.childAt(0, 1), 2);
        CHECK.same("2 its parent", v.parent(2), 0);
        v.addRule(8, 5, false);
        v.addPart(0, 7, -1, 0, false);
        CHECK.same("2 has its tag", v.matched(0), 1);
        v.addText(0);
        v.addElement(0, 1);
        v.takeAway(4);
        for (int i = v.added(); i < 40; i++) {
            CHECK.same("2 up to 40", v.addElement(0, 1), i);
        }
    }

    private static void addText() {
        PinnaceView v = new PinnaceView();
        chain(v, 10);
        CHECK.same("3 with 9 ancestors ahead", v.addText(9), 11);
        CHECK.same("3 is a text", v.isText(11), true);
        CHECK.same("3 has no words", v.size(11), 0);
        CHECK.same("3 last child", v.childAt(9, 1), 11);
    }

    private static void addWord() {
        PinnaceView v = new PinnaceView();
        int text = v.addText(0);
        CHECK.same("4 one letter", v.addWord(text, 1), 1);
        CHECK.same("4 twelve letters", v.addWord(text, 12), 2);
        CHECK.same("4 size", v.size(text), 2);
        CHECK.same("4 behind the other", v.wordX(text, 1), 16);
        for (int words = 3; words <= 20; words++) {
            CHECK.same("4 up to 20", v.addWord(text, 2), words);
        }
    }

    private static void takeAway() {
        PinnaceView v = new PinnaceView();
        v.addElement(0, 0);
        v.addElement(1, 0);
        v.addText(2);
        v.addElement(1, 0);
        v.addElement(0, 0);
        CHECK.same("5 a leaf", v.takeAway(4), 1);
        CHECK.same("5 with all in it", v.takeAway(1), 3);
        CHECK.same("5 is gone", v.isThere(1), false);
        CHECK.same("5 what was in it too", v.isThere(3), false);
        CHECK.same("5 others stay", v.isThere(5), true);
        CHECK.same("5 out of the children", v.size(0), 1);
        CHECK.same("5 the place", v.childAt(0, 0), 5);
        CHECK.same("5 nodes", v.nodes(), 2);
        CHECK.same("5 added", v.added(), 6);
        CHECK.same("5 number not used again", v.addElement(0, 0), 6);
    }

    private static void move() {
        PinnaceView v = new PinnaceView();
        v.addElement(0, 0);
        v.addElement(0, 0);
        v.addElement(0, 0);
        v.addText(1);
        CHECK.same("6 to the end, counted without it", v.move(1, 0, 2), 3);
        CHECK.same("6 order a", childrenOf(v, 0), "2 3 1 ");
        CHECK.same("6 between", v.move(1, 0, 1), 3);
        CHECK.same("6 order b", childrenOf(v, 0), "2 1 3 ");
        CHECK.same("6 to where it is", v.move(2, 0, 0), 3);
        CHECK.same("6 order c", childrenOf(v, 0), "2 1 3 ");
        CHECK.same("6 into another", v.move(1, 3, 0), 1);
        CHECK.same("6 order d", childrenOf(v, 0), "2 3 ");
        CHECK.same("6 new parent", v.parent(1), 3);
        CHECK.same("6 with what is in it", v.parent(4), 1);
        CHECK.same("6 a text, ahead of another", v.move(4, 3, 0), 2);
        CHECK.same("6 order e", childrenOf(v, 3), "4 1 ");
    }

    private static void moveKeepsAncestorsFew() {
        PinnaceView v = new PinnaceView();
        chain(v, 10);
        int single = v.addElement(0, 1);
        int pair = v.addElement(0, 1);
        int inPair = v.addText(pair);
        CHECK.same("6 as deep as can be", v.move(single, 9, 0), 2);
        CHECK.same("6 one in it as deep as can be", v.move(pair, 8, 1), 2);
        CHECK.same("6 still in it", v.parent(inPair), pair);
    }

    private static void asDeepAsCanBe() {
        PinnaceView v = new PinnaceView();
        int deepest = chain(v, 10);
        int other = v.addElement(0, 0);
        v.addRule(8, 5, false);
        v.addPart(0, -1, -1, 0, false);
        CHECK.same("16 the deepest counts", v.nodes(), 12);
        CHECK.same("25 the deepest too", v.matched(0), 12);
        CHECK.same("26 the deepest too", v.styleOf(deepest, 8), 5);
        CHECK.same("6 a deep one moved up", v.move(2, other, 0), 1);
        CHECK.same("5 the deepest goes with it", v.takeAway(other), 10);
        CHECK.same("17 it is gone", v.isThere(deepest), false);
    }

    private static void setClass() {
        PinnaceView v = new PinnaceView();
        v.addText(0);
        v.addRule(8, 5, false);
        v.addPart(0, -1, 7, 0, false);
        CHECK.same("7 had it not", v.setClass(0, 7, true), false);
        CHECK.same("7 has it", v.matches(0, 0), true);
        CHECK.same("7 had it", v.setClass(0, 7, true), true);
        CHECK.same("7 another one", v.setClass(0, 0, true), false);
        CHECK.same("7 takes it", v.setClass(0, 7, false), true);
        CHECK.same("7 has it no more", v.matches(0, 0), false);
        CHECK.same("7 takes what is not there", v.setClass(0, 7, false), false);
        CHECK.same("7 the other one stayed", v.setClass(0, 0, false), true);
    }

    private static void setName() {
        PinnaceView v = new PinnaceView();
        v.addText(0);
        v.addElement(0, 0);
        v.addRule(8, 5, false);
        v.addPart(0, -1, -1, 99, false);
        CHECK.same("8 none at first", v.setName(0, 99), 0);
        CHECK.same("8 the name before", v.setName(2, 99), 0);
        CHECK.same("8 several can have it", v.matched(0), 2);
        CHECK.same("8 none again", v.setName(0, 0), 99);
        CHECK.same("8 is not named", v.matches(0, 0), false);
    }

    private static void asked() {
        PinnaceView v = new PinnaceView();
        v.addElement(0, 3);
        v.addText(1);
        v.addWord(2, 4);
        v.addElement(0, 3);
        CHECK.same("15 added", v.added(), 4);
        CHECK.same("16 nodes", v.nodes(), 4);
        v.takeAway(3);
        CHECK.same("15 gone ones count", v.added(), 4);
        CHECK.same("16 gone ones do not", v.nodes(), 3);
        CHECK.same("17 there", v.isThere(2), true);
        CHECK.same("17 gone", v.isThere(3), false);
        CHECK.same("17 never", v.isThere(4), false);
        CHECK.same("17 below 0", v.isThere(-1), false);
        CHECK.same("17 far", v.isThere(Integer.MAX_VALUE), false);
        CHECK.same("18 an element", v.isText(1), false);
        CHECK.same("18 a text", v.isText(2), true);
        CHECK.same("19 parent", v.parent(2), 1);
        CHECK.same("19 of the root", v.parent(0), -1);
        CHECK.same("20 children", v.size(0), 1);
        CHECK.same("20 words", v.size(2), 1);
        CHECK.same("21 child", v.childAt(1, 0), 2);
    }
}
