/** Edges of floats and their wishes: Terms 7. */
final class FloatEdges extends Build {
    private final Edges edges;

    FloatEdges(Edges edges) {
        this.edges = edges;
    }

    void check() {
        declaredWidth();
        asWideAsItsWish();
        notMoreThanThereIs();
        wishOfNothing();
        wishOfWords();
        wishOfBoxes();
        wishesInWishes();
        tenLevels();
        withEdges();
        notAboveTheCursor();
        notAboveAnEarlierTop();
        notAboveOneFartherDown();
        notAboveByItsClear();
        justWithinTheSpan();
        withoutWidth();
        noFloatThere();
        downStepByStep();
        inNarrowBlocks();
        cursorAndGapStay();
        manyFloats();
    }

    private static final String CONTENT = "The content of a FLOAT is WIDTH wide (whatever there is room for), or, if that is auto, "
            + "as wide as its WISH, but not more than right - left - 2 * EDGE, or 0, if that is below 0.";

    private void declaredWidth() {
        edges.terms(7, CONTENT);
        PinnaceView v = wide(100);
        int floating = box(v, 0, FLOAT, 1, PADDING, 2);
        text(v, floating, 5);
        for (int width : new int[] {0, 1, 96, 97, 1000}) {
            style(v, floating, WIDTH, width);
            edges.same("WIDTH " + width, v.wideOf(floating), width + 4);
        }
        style(v, floating, WIDTH, -1);
        edges.same("auto", v.wideOf(floating), 44);
    }

    private void asWideAsItsWish() {
        edges.terms(7, CONTENT);
        PinnaceView v = wide(97);
        int floating = box(v, 0, FLOAT, 1);
        text(v, floating, 6, 5);
        int[][] views = {{97, 96, 1}, {96, 96, 1}, {95, 95, 2}, {20, 20, 2}};
        for (int[] view : views) {
            v.setView(view[0]);
            style(v, floating, PADDING, 0);
            edges.same("a view of " + view[0], v.wideOf(floating), view[1]);
            edges.same("lines in " + view[0], v.lines(floating), view[2]);
            v.setView(view[0] + 10);
            style(v, floating, PADDING, 1, BORDER, 1, MARGIN, 3);
            edges.same("with EDGE 5", v.wideOf(floating), view[1] + 4);
            style(v, floating, BORDER, 0, MARGIN, 0);
        }
    }

    private void notMoreThanThereIs() {
        edges.terms(7, CONTENT);
        int[][] margins = {{9, 2}, {10, 0}, {11, 0}, {100, 0}};
        for (int[] margin : margins) {
            for (int side = 1; side <= 2; side++) {
                PinnaceView v = wide(20);
                int floating = box(v, 0, FLOAT, side, MARGIN, margin[0]);
                text(v, floating, 1);
                int x = side == 1 ? margin[0] : 20 - margin[0] - margin[1];
                edges.place("MARGIN " + margin[0], v, floating, x, margin[0], margin[1], 16);
            }
        }
        PinnaceView v = wide(100);
        int block = box(v, 0, WIDTH, 30);
        int floating = box(v, block, FLOAT, 1);
        text(v, floating, 5);
        edges.same("of the box that it is in", v.wideOf(floating), 30);
        style(v, block, WIDTH, 0);
        edges.same("none", v.wideOf(floating), 0);
    }

    private static final String WISH = "The WISH of a box is the greatest of these: the width that all words have in one line that wait "
            + "together; of each BLOCK and FLOAT of its FLOW what it comes to with 2 * EDGE added to its WIDTH, or, "
            + "if that is auto, to its WISH; 0.";

    private void wishOfNothing() {
        edges.terms(7, WISH);
        PinnaceView v = wide(100);
        int floating = box(v, 0, FLOAT, 1);
        edges.same("nothing", v.wideOf(floating), 0);
        int text = v.addText(floating);
        edges.same("a text without words", v.wideOf(floating), 0);
        int block = box(v, floating);
        edges.same("a block without anything", v.wideOf(floating), 0);
        style(v, block, DISPLAY, 0, WIDTH, 50);
        edges.same("not SHOWN", v.wideOf(floating), 0);
        style(v, block, DISPLAY, 2);
        edges.same("an INLINE one's WIDTH", v.wideOf(floating), 0);
        v.addWord(text, 1);
        edges.same("one word", v.wideOf(floating), 8);
        style(v, floating, FONT, 1);
        edges.same("one letter of 1", v.wideOf(floating), 1);
        v.takeAway(text);
        v.takeAway(block);
        edges.same("nothing again", v.wideOf(floating), 0);
    }

    private void wishOfWords() {
        edges.terms(7, WISH);
        PinnaceView v = wide(2000);
        int floating = box(v, 0, FLOAT, 1);
        text(v, floating, 2, 3);
        int inline = box(v, floating, DISPLAY, 2, FONT, 4, PADDING, 9);
        text(v, inline, 5);
        edges.same("of both texts", v.wideOf(floating), 76);
        text(v, floating, 1);
        edges.same("the space of the smaller one", v.wideOf(floating), 88);
        int between = box(v, floating, FLOAT, 2);
        edges.same("a FLOAT behind them", v.wideOf(floating), 88);
        v.move(between, floating, 1);
        edges.same("a FLOAT between them", v.wideOf(floating), 48);
        style(v, between, FLOAT, 0);
        edges.same("a BLOCK between them", v.wideOf(floating), 48);
        style(v, between, DISPLAY, 2);
        edges.same("an INLINE one between them", v.wideOf(floating), 88);
        style(v, between, DISPLAY, 0);
        edges.same("one that is not SHOWN", v.wideOf(floating), 88);
        int last = v.addText(floating);
        for (int i = 0; i < 20; i++) {
            v.addWord(last, 12);
        }
        edges.same("as much as there is", v.wideOf(floating), 2000);
        style(v, floating, FONT, 1);
        edges.same("twenty more", v.wideOf(floating), 2 + 1 + 3 + 1 + 20 + 4 + 1 + 1 + 20 * 13 - 1);
    }

    private void wishOfBoxes() {
        edges.terms(7, WISH);
        PinnaceView v = wide(200);
        int floating = box(v, 0, FLOAT, 1);
        text(v, floating, 6, 5);
        int block = box(v, floating, PADDING, 1, BORDER, 2, MARGIN, 3);
        int[][] widths = {{0, 96}, {83, 96}, {84, 96}, {85, 97}, {100, 112}};
        for (int side = 0; side <= 2; side++) {
            style(v, block, FLOAT, side);
            for (int[] width : widths) {
                style(v, block, WIDTH, width[0]);
                edges.same("words, and " + width[0], v.wideOf(floating), width[1]);
            }
        }
        style(v, block, WIDTH, 1000);
        edges.same("as much as there is", v.wideOf(floating), 200);
        style(v, block, WIDTH, -1, PADDING, 100);
        edges.same("the EDGE alone", v.wideOf(floating), 200);
        v.setView(2000);
        edges.same("the EDGE alone, with more room", v.wideOf(floating), 210);
    }

    private void wishesInWishes() {
        edges.terms(7, WISH);
        PinnaceView v = wide(500);
        int floating = box(v, 0, FLOAT, 1);
        int block = box(v, floating, PADDING, 3);
        int inner = box(v, block, FLOAT, 2, MARGIN, 2);
        int text = text(v, inner, 5);
        edges.same("40, 4 and 6", v.wideOf(floating), 50);
        v.addWord(text, 12);
        edges.same("with a word more", v.wideOf(floating), 154);
        style(v, inner, WIDTH, 7);
        edges.same("a WIDTH in it", v.wideOf(floating), 17);
        style(v, block, WIDTH, 2);
        edges.same("a WIDTH round that", v.wideOf(floating), 8);
        style(v, floating, WIDTH, 1);
        edges.same("its own", v.wideOf(floating), 1);
        int second = box(v, floating, WIDTH, 20);
        int third = box(v, floating, WIDTH, 10);
        style(v, floating, WIDTH, -1);
        edges.same("the greatest, not the last", v.wideOf(floating), 20);
        v.move(third, floating, 0);
        edges.same("nor the first", v.wideOf(floating), 20);
        v.takeAway(second);
        edges.same("what is left", v.wideOf(floating), 10);
    }

    private void tenLevels() {
        edges.terms(7, WISH);
        for (int side = 1; side <= 2; side++) {
            PinnaceView v = wide(34);
            int[] floats = new int[10];
            for (int i = 1; i < 10; i++) {
                floats[i] = box(v, floats[i - 1], FLOAT, side, PADDING, 1);
            }
            int text = text(v, floats[9], 2);
            int deepest = box(v, floats[9], FLOAT, 2, WIDTH, 7, HEIGHT, 5);
            edges.place("the outermost one", v, floats[1], 0, 0, 34, 39);
            edges.place("the innermost one", v, floats[9], 8, 8, 18, 23);
            edges.word("with 10 ancestors", v, text, 0, 9, 9);
            edges.place("with 10 ancestors", v, deepest, 18, 25, 7, 5);
        }
    }

    private void withEdges() {
        edges.terms(7, "A FLOAT is as wide and high as its content and 2 * EDGE.");
        PinnaceView v = wide(100);
        int first = box(v, 0, FLOAT, 1, WIDTH, 20, HEIGHT, 10, MARGIN, 1, BORDER, 2, PADDING, 3);
        int second = box(v, 0, FLOAT, 1, WIDTH, 10, HEIGHT, 10);
        int block = box(v, 0, CLEAR, 3);
        edges.place("the first", v, first, 1, 1, 30, 20);
        edges.place("beside it", v, second, 32, 0, 10, 10);
        edges.same("below it", v.yOf(block), 22);
        style(v, second, WIDTH, 68);
        edges.same("just beside it", v.yOf(second), 0);
        style(v, second, WIDTH, 69);
        edges.place("just not beside it", v, second, 0, 22, 69, 10);
        style(v, second, WIDTH, 60, MARGIN, 4);
        edges.place("beside it with its own", v, second, 36, 4, 60, 10);
        style(v, first, HEIGHT, 0, MARGIN, 0, BORDER, 0, PADDING, 0);
        edges.place("the first without any height", v, first, 0, 0, 20, 0);
        edges.place("that one is at no y", v, second, 4, 4, 60, 10);
    }

    private static final String PUT = "It is put at the least y that is not above the cursor, nor above the top of a FLOAT of the same "
            + "ROOM that was put ahead of it, nor, by its CLEAR, above the lowest bottom of those that 5 tells, and at "
            + "which it is not wider than the SPAN, or no FLOAT of the ROOM is: at the beginning of the SPAN, or, "
            + "if it is a right one, so that it ends at the end of the SPAN.";

    private void notAboveTheCursor() {
        edges.terms(7, PUT);
        for (int high : new int[] {0, 1, 7}) {
            PinnaceView v = wide(100);
            box(v, 0, HEIGHT, high);
            int left = box(v, 0, FLOAT, 1, WIDTH, 10, HEIGHT, 5);
            int right = box(v, 0, FLOAT, 2, WIDTH, 10, HEIGHT, 5);
            edges.place("a left one below " + high, v, left, 0, high, 10, 5);
            edges.place("a right one below " + high, v, right, 90, high, 10, 5);
        }
        PinnaceView v = wide(100);
        text(v, 0, 1);
        int floating = box(v, 0, FLOAT, 2, WIDTH, 10, HEIGHT, 5);
        edges.place("below a line", v, floating, 90, 16, 10, 5);
    }

    private void notAboveAnEarlierTop() {
        edges.terms(7, PUT);
        PinnaceView v = wide(100);
        box(v, 0, FLOAT, 1, WIDTH, 60, HEIGHT, 10);
        int second = box(v, 0, FLOAT, 1, WIDTH, 50, HEIGHT, 0);
        int third = box(v, 0, FLOAT, 2, WIDTH, 10, HEIGHT, 5);
        edges.same("no room for the second", v.yOf(second), 10);
        edges.place("the third not above that", v, third, 90, 10, 10, 5);
        style(v, second, WIDTH, 40);
        edges.place("room for both", v, third, 90, 0, 10, 5);
        style(v, second, WIDTH, 50, HEIGHT, 10);
        int block = box(v, 0);
        v.move(third, block, 0);
        edges.place("in a BLOCK", v, third, 90, 10, 10, 5);
        style(v, block, SCROLL, 1);
        edges.place("in another ROOM", v, third, 90, 0, 10, 5);
    }

    private void notAboveOneFartherDown() {
        edges.terms(7, PUT);
        PinnaceView v = wide(100);
        int block = box(v, 0, HEIGHT, 0);
        box(v, block, HEIGHT, 50);
        int first = box(v, block, FLOAT, 1, WIDTH, 10, HEIGHT, 5);
        int second = box(v, 0, FLOAT, 1, WIDTH, 10, HEIGHT, 5);
        int text = text(v, 0, 1);
        edges.place("out of a BLOCK without height", v, first, 0, 50, 10, 5);
        edges.place("not above that, though the cursor is", v, second, 10, 50, 10, 5);
        edges.word("a line at the cursor", v, text, 0, 0, 0);
        edges.same("the lowest bottom", v.reachOf(0), 55);
        style(v, block, SCROLL, 1);
        edges.place("that one is of another ROOM", v, second, 0, 0, 10, 5);
        edges.word("a line beside it", v, text, 0, 10, 0);
        edges.same("the line's bottom", v.reachOf(0), 16);
    }

    private void notAboveByItsClear() {
        edges.terms(7, PUT);
        PinnaceView v = wide(100);
        int left = box(v, 0, FLOAT, 1, WIDTH, 10, HEIGHT, 10);
        int right = box(v, 0, FLOAT, 2, WIDTH, 10, HEIGHT, 20);
        int floating = box(v, 0, FLOAT, 1, WIDTH, 10, HEIGHT, 5);
        int[] due = {0, 10, 20, 20};
        for (int clear = 0; clear <= 3; clear++) {
            style(v, floating, CLEAR, clear);
            edges.place("CLEAR " + clear, v, floating, clear == 0 ? 10 : 0, due[clear], 10, 5);
        }
        style(v, left, HEIGHT, 30);
        edges.same("both", v.yOf(floating), 30);
        style(v, floating, CLEAR, 2);
        edges.place("the right ones", v, floating, 10, 20, 10, 5);
        style(v, right, HEIGHT, 0);
        edges.place("one without height", v, floating, 10, 0, 10, 5);
        int block = box(v, 0, HEIGHT, 31);
        v.move(block, 0, 2);
        style(v, floating, CLEAR, 3);
        edges.place("the cursor is below them", v, floating, 0, 31, 10, 5);
    }

    private void justWithinTheSpan() {
        edges.terms(7, PUT);
        for (int first = 1; first <= 2; first++) {
            for (int second = 1; second <= 2; second++) {
                int[][] widths = {{39, 0}, {40, 0}, {41, 10}, {100, 10}, {101, 10}, {1000, 10}};
                for (int[] width : widths) {
                    PinnaceView v = wide(100);
                    box(v, 0, FLOAT, first, WIDTH, 60, HEIGHT, 10);
                    int floating = box(v, 0, FLOAT, second, WIDTH, width[0], HEIGHT, 5);
                    boolean isBeside = width[1] == 0;
                    int begin = isBeside && first == 1 ? 60 : 0;
                    int end = isBeside && first == 2 ? 40 : 100;
                    int x = second == 1 ? begin : end - width[0];
                    edges.place(first + " and " + second + ", " + width[0], v, floating, x, width[1], width[0], 5);
                }
            }
        }
    }

    private void withoutWidth() {
        edges.terms(7, PUT);
        PinnaceView v = wide(100);
        int first = box(v, 0, FLOAT, 1, WIDTH, 100, HEIGHT, 10);
        int none = box(v, 0, FLOAT, 1, WIDTH, 0, HEIGHT, 5);
        edges.place("not wider than a SPAN of 0", v, none, 100, 0, 0, 5);
        style(v, none, FLOAT, 2);
        edges.place("nor a right one", v, none, 100, 0, 0, 5);
        style(v, first, WIDTH, 101);
        edges.place("wider than a SPAN below 0", v, none, 100, 10, 0, 5);
        style(v, first, WIDTH, 99);
        style(v, none, WIDTH, 1);
        edges.place("one in one", v, none, 99, 0, 1, 5);
        style(v, none, WIDTH, 2);
        edges.place("two in one", v, none, 98, 10, 2, 5);
    }

    private void noFloatThere() {
        edges.terms(7, PUT);
        PinnaceView v = wide(100);
        int floating = box(v, 0, FLOAT, 1, WIDTH, 130, HEIGHT, 5);
        edges.place("a left one, too wide", v, floating, 0, 0, 130, 5);
        style(v, floating, FLOAT, 2);
        edges.place("a right one, too wide", v, floating, -30, 0, 130, 5);
        int flat = box(v, 0, FLOAT, 1, WIDTH, 50, HEIGHT, 0);
        v.move(flat, 0, 0);
        edges.place("one without height is at no y", v, floating, -30, 0, 130, 5);
        style(v, flat, HEIGHT, 1);
        edges.place("one that is 1 high", v, floating, -30, 1, 130, 5);
    }

    private void downStepByStep() {
        edges.terms(7, PUT);
        PinnaceView v = wide(100);
        box(v, 0, FLOAT, 1, WIDTH, 40, HEIGHT, 30);
        box(v, 0, FLOAT, 2, WIDTH, 30, HEIGHT, 20);
        box(v, 0, FLOAT, 1, WIDTH, 20, HEIGHT, 10);
        int floating = box(v, 0, FLOAT, 2, WIDTH, 10, HEIGHT, 5);
        int[][] widths = {{10, 60, 0}, {11, 59, 10}, {30, 40, 10}, {31, 69, 20}, {60, 40, 20}, {61, 39, 30}, {101, -1, 30}};
        for (int[] width : widths) {
            style(v, floating, WIDTH, width[0]);
            edges.place("WIDTH " + width[0], v, floating, width[1], width[2], width[0], 5);
        }
    }

    private void inNarrowBlocks() {
        edges.terms(7, PUT);
        PinnaceView v = wide(100);
        box(v, 0, FLOAT, 1, WIDTH, 30, HEIGHT, 10);
        box(v, 0, FLOAT, 2, WIDTH, 5, HEIGHT, 40);
        int block = box(v, 0, MARGIN, 20, WIDTH, 50, TOP, 1);
        int left = box(v, block, FLOAT, 1, WIDTH, 10, HEIGHT, 5);
        int right = box(v, block, FLOAT, 2, WIDTH, 10, HEIGHT, 5);
        edges.place("from the BLOCK's left", v, left, 20, 21, 10, 5);
        edges.place("to the BLOCK's right", v, right, 60, 21, 10, 5);
        style(v, block, MARGIN, 8, TOP, 0);
        edges.place("behind the left FLOAT", v, left, 30, 8, 10, 5);
        edges.place("where the BLOCK ends", v, right, 48, 8, 10, 5);
        style(v, block, WIDTH, 1000);
        edges.place("where the right FLOAT begins", v, right, 85, 8, 10, 5);
        style(v, block, WIDTH, 32);
        edges.place("10 are just enough for the left one", v, left, 30, 8, 10, 5);
        style(v, block, WIDTH, 31);
        edges.place("9 are too little", v, left, 8, 10, 10, 5);
    }

    private void cursorAndGapStay() {
        edges.terms(7, "(The cursor and GAP stay.)");
        PinnaceView v = wide(100);
        int first = box(v, 0, MARGIN, 5, HEIGHT, 10);
        int floating = box(v, 0, FLOAT, 1, WIDTH, 10, HEIGHT, 30, MARGIN, 7);
        int second = box(v, 0, MARGIN, 6, HEIGHT, 10);
        edges.same("the FLOAT", v.yOf(floating), 27);
        edges.same("GAP 5 stays", v.yOf(second), 21);
        v.move(floating, 0, 0);
        edges.same("the cursor stays at the top", v.yOf(first), 5);
        style(v, first, DISPLAY, 0);
        style(v, second, MARGIN, 0);
        edges.same("at the very top", v.yOf(second), 0);
        int text = text(v, 0, 1);
        v.move(text, 0, 1);
        edges.word("a line at the cursor", v, text, 0, 24, 0);
    }

    private void manyFloats() {
        edges.terms(7, PUT);
        PinnaceView v = wide(100);
        int[] floats = new int[39];
        for (int i = 0; i < 39; i++) {
            floats[i] = box(v, 0, FLOAT, 1, WIDTH, 60, HEIGHT, 10);
        }
        edges.place("39 of them, the last", v, floats[38], 0, 380, 60, 10);
        edges.same("all of them", v.reachOf(0), 390);
        style(v, floats[38], WIDTH, 40);
        edges.place("beside the one ahead", v, floats[38], 60, 370, 40, 10);
        for (int i = 0; i < 38; i++) {
            style(v, floats[i], WIDTH, 1, HEIGHT, i + 1);
        }
        style(v, floats[38], WIDTH, 100);
        edges.place("below all, one after the other", v, floats[38], 0, 38, 100, 10);
        style(v, floats[38], WIDTH, 62);
        edges.place("beside all", v, floats[38], 38, 0, 62, 10);
        style(v, floats[38], WIDTH, 63);
        edges.place("below all of them, as the last is the lowest", v, floats[38], 0, 38, 63, 10);
    }
}
