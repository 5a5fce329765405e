/** Objects that many tests begin with, and the numbers of what is in them. */
final class Scenes extends Build {
    static final Scene NEW = v -> { };

    /** A little of everything, declared, named, ruled, scrolled, hidden and gone. */
    static final Scene MIXED = Scenes::mixed;
    static final int BLOCK = 1;
    static final int INLINE = 2;
    /** It has 3 words. */
    static final int TEXT = 3;
    static final int SCROLLING = 6;
    /** It has 20 words. */
    static final int FULL_TEXT = 7;
    static final int GONE = 9;
    static final int[] ALL_GONE = {8, 9, 10};
    static final int LAST_ELEMENT = 11;
    /** It has 1 word. */
    static final int HIDDEN_TEXT = 12;
    static final int ADDED = 13;
    static final int CHILDREN_OF_ROOT = 3;
    static final int RULE_OF_TWO = 1;
    static final int FULL_RULE = 3;
    static final int RULES = 5;

    /** All nodes, all words of a text, and all parts of all rules. */
    static final Scene FULL = Scenes::full;
    static final int TEXT_OF_FULL = 1;
    static final int GONE_OF_FULL = 38;

    /** 39 nodes and 23 rules. */
    static final Scene ALL_BUT_ONE = Scenes::allButOne;

    /** An element with 10 ancestors, a text beside it, and two elements in the root. */
    static final Scene DEEP = Scenes::deep;
    static final int DEEPEST = 10;
    static final int DEEP_TEXT = 11;
    static final int SINGLE = 12;
    static final int PAIR = 13;
    static final int TEXT_IN_PAIR = 15;

    private Scenes() {
    }

    private static void mixed(PinnaceView v) {
        v.setView(300);
        v.addElement(0, 3);
        style(v, BLOCK, MARGIN, 4, PADDING, 2, COLOR, 77);
        v.setName(BLOCK, 5);
        v.setClass(BLOCK, 1, true);
        v.setClass(BLOCK, 7, true);
        v.addElement(BLOCK, 2);
        style(v, INLINE, DISPLAY, 2, FONT, 10);
        text(v, INLINE, 3, 12, 1);
        int floating = v.addElement(BLOCK, 7);
        style(v, floating, FLOAT, 1, BORDER, 1);
        text(v, floating, 2);
        v.addElement(0, 1);
        style(v, SCROLLING, SCROLL, 1, HEIGHT, 30, WIDTH, 50, LEFT, 5, TOP, -3);
        v.scroll(SCROLLING, 9);
        text(v, SCROLLING, 1, 2, 3, 4, 5, 6, 7, 8, 9, 10, 11, 12, 1, 2, 3, 4, 5, 6, 7, 8);
        int taken = v.addElement(0, 0);
        text(v, v.addElement(taken, 1), 4);
        v.takeAway(taken);
        v.addElement(0, 4);
        style(v, LAST_ELEMENT, DISPLAY, 0, WIDTH, 9999);
        v.scroll(LAST_ELEMENT, 3);
        text(v, LAST_ELEMENT, 6);
        mixedRules(v);
    }

    private static void mixedRules(PinnaceView v) {
        v.addRule(COLOR, 200, false);
        v.addPart(0, -1, 7, 0, false);
        v.addRule(MARGIN, 6, true);
        v.addPart(RULE_OF_TWO, 0, -1, 0, false);
        v.addPart(RULE_OF_TWO, -1, 1, 5, true);
        v.addRule(FONT, 12, false);
        v.addRule(BORDER, 3, false);
        for (int i = 0; i < 3; i++) {
            v.addPart(FULL_RULE, -1, -1, 0, false);
        }
        v.turn(FULL_RULE);
        v.addRule(ALIGN, 1, false);
        v.addPart(4, -1, -1, 0, false);
    }

    private static void full(PinnaceView v) {
        allButOne(v);
        v.addText(2);
        v.addRule(COLOR, 1, false);
        for (int rule = 0; rule < 24; rule++) {
            while (v.addPart(rule, rule % 2 - 1, -1, 0, false) < 3) {
                continue;
            }
        }
        v.takeAway(GONE_OF_FULL);
    }

    private static void allButOne(PinnaceView v) {
        text(v, 0, 1, 2, 3, 4, 5, 6, 7, 8, 9, 10, 11, 12, 1, 2, 3, 4, 5, 6, 7, 8);
        for (int node = 2; node < 39; node++) {
            v.addElement(node % 5 == 0 ? node - 1 : 0, node % 8);
        }
        for (int rule = 0; rule < 23; rule++) {
            v.addRule(rule % PROPERTIES, GREATEST[rule % PROPERTIES], rule % 3 == 0);
        }
    }

    private static void deep(PinnaceView v) {
        chain(v, 10);
        v.addText(DEEPEST - 1);
        v.addElement(0, 1);
        v.addElement(0, 2);
        v.addElement(PAIR, 3);
        v.addText(PAIR);
    }
}
