/** Short ways to build objects; the tests that extend it call them by their names alone. */
class Build {
    static final int DISPLAY = 0;
    static final int WIDTH = 1;
    static final int HEIGHT = 2;
    static final int MARGIN = 3;
    static final int PADDING = 4;
    static final int BORDER = 5;
    static final int FLOAT = 6;
    static final int CLEAR = 7;
    static final int COLOR = 8;
    static final int FONT = 9;
    static final int ALIGN = 10;
    static final int SCROLL = 11;
    static final int LEFT = 12;
    static final int TOP = 13;
    static final int PROPERTIES = 14;
    static final int[] LEAST = {0, -1, -1, 0, 0, 0, 0, 0, 0, 1, 0, 0, -500, -500};
    static final int[] GREATEST = {2, 1000, 1000, 100, 100, 20, 2, 3, 255, 40, 2, 1, 500, 500};
    static final int[] FIRST = {1, -1, -1, 0, 0, 0, 0, 0, 0, 8, 0, 0, 0, 0};
    static final Class<?> INDEX = IndexOutOfBoundsException.class;
    static final Class<?> ARGUMENT = IllegalArgumentException.class;
    static final Class<?> STATE = IllegalStateException.class;

    /** A new object whose view is so wide. */
    static PinnaceView wide(int width) {
        PinnaceView v = new PinnaceView();
        v.setView(width);
        return v;
    }

    /** An element that declares these properties and values, one behind the other. */
    static int box(PinnaceView v, int parent, int... declared) {
        int element = v.addElement(parent, 0);
        style(v, element, declared);
        return element;
    }

    static void style(PinnaceView v, int element, int... declared) {
        for (int i = 0; i < declared.length; i += 2) {
            v.declare(element, declared[i], declared[i + 1]);
        }
    }

    /** A text with a word for each number of letters. */
    static int text(PinnaceView v, int parent, int... letters) {
        int text = v.addText(parent);
        for (int count : letters) {
            v.addWord(text, count);
        }
        return text;
    }

    /** One element in the other, so that the last one has so many ancestors. */
    static int chain(PinnaceView v, int ancestors) {
        int last = 0;
        for (int i = 0; i < ancestors; i++) {
            last = v.addElement(last, 0);
        }
        return last;
    }

    /** A rule with one part, which asks for nothing. */
    static int ruleForAll(PinnaceView v, int property, int value, boolean isStrong) {
        int rule = v.addRule(property, value, isStrong);
        v.addPart(rule, -1, -1, 0, false);
        return rule;
    }

    static String childrenOf(PinnaceView v, int node) {
        StringBuilder text = new StringBuilder();
        for (int place = 0; place < v.size(node); place++) {
            text.append(v.childAt(node, place)).append(' ');
        }
        return text.toString();
    }
}
