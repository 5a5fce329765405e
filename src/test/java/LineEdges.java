/** Edges of lines and their words: Terms 6, promises 35 to 37 and 41. */
final class LineEdges extends Build {
    private final Edges edges;

    LineEdges(Edges edges) {
        this.edges = edges;
    }

    void check() {
        wordsLeast();
        wordsGreatest();
        spaces();
        spanOfLeftOnes();
        spanOfRightOnes();
        spanAtTopsAndBottoms();
        spanOfItsRoom();
        endsWithin();
        goesDown();
        goesDownToTheLeast();
        goesDownForNothing();
        takesItAlone();
        manyWords();
        asHighAs();
        align();
        alignBesideFloats();
        linesOf();
        wordNumbers();
        meanLine();
    }

    private static final String WORD = "A word of a text that has f of FONT is letters * f wide, and 2 * f high; "
            + "between two words of a line is a space as wide as the FONT of the first one of these two.";

    private void wordsLeast() {
        edges.terms(6, WORD);
        PinnaceView v = wide(100);
        style(v, 0, FONT, 1);
        int text = text(v, 0, 1, 1);
        edges.word("one letter of 1", v, text, 1, 2, 0);
        edges.same("as high", v.pageHeight(), 2);
        edges.same("its first place", v.hit(0, 0), text);
        edges.same("its last row", v.hit(0, 1), text);
        edges.same("below it", v.hit(0, 2), -1);
        edges.same("the space", v.hit(1, 0), 0);
        edges.same("the second one", v.hit(2, 1), text);
        edges.same("behind it", v.hit(3, 1), 0);
    }

    private void wordsGreatest() {
        edges.terms(6, WORD);
        PinnaceView v = wide(1000);
        style(v, 0, FONT, 40);
        int text = text(v, 0, 12, 12);
        edges.word("twelve letters of 40", v, text, 1, 520, 0);
        edges.same("as high", v.pageHeight(), 80);
        edges.same("its last place", v.hit(479, 79), text);
        edges.same("the space begins", v.hit(480, 79), 0);
        edges.same("the space ends", v.hit(519, 0), 0);
        edges.same("the second one", v.hit(520, 0), text);
        edges.same("its last place", v.hit(999, 79), text);
        edges.same("below it", v.hit(999, 80), -1);
        edges.same("they just end within", v.lines(0), 1);
        edges.same("or not", v.heightIn(999), 160);
        int other = v.addText(0);
        for (int i = 0; i < 20; i++) {
            v.addWord(other, 12);
        }
        edges.same("eleven lines of two", v.pageHeight(), 11 * 80);
    }

    private void spaces() {
        edges.terms(6, WORD);
        PinnaceView v = wide(200);
        int big = text(v, box(v, 0, DISPLAY, 2, FONT, 10), 3);
        int small = text(v, box(v, 0, DISPLAY, 2, FONT, 4), 5, 1);
        int last = text(v, 0, 1);
        edges.word("a space of 10", v, small, 0, 40, 0);
        edges.word("a space of 4", v, small, 1, 64, 0);
        edges.word("a space of 4 again", v, last, 0, 72, 0);
        edges.word("none ahead of the first", v, big, 0, 0, 0);
        v.setView(80);
        edges.same("none behind the last", v.lines(0), 1);
        v.setView(79);
        edges.same("too narrow", v.lines(0), 2);
    }

    private static final String SPAN = "The SPAN at a y is from left (or the greatest right side of those left FLOATS of the ROOM "
            + "that are at y, if that is more) to right (or the least left side of those right ones that are at y, "
            + "if that is less); a FLOAT is at y, if y is not above its top, and above its bottom.";

    private void spanOfLeftOnes() {
        edges.terms(6, SPAN);
        int[][] widths = {{0, 20}, {19, 20}, {20, 20}, {21, 21}, {60, 60}};
        for (int[] width : widths) {
            PinnaceView v = wide(100);
            box(v, 0, FLOAT, 1, WIDTH, width[0], HEIGHT, 50);
            int block = box(v, 0, MARGIN, 20);
            int text = text(v, block, 1);
            edges.word("a left one " + width[0] + " wide", v, text, 0, width[1], 20);
            int second = box(v, 0, FLOAT, 1, WIDTH, 3, HEIGHT, 50);
            v.move(second, 0, 1);
            edges.word("the greater of two", v, text, 0, Math.max(20, width[0] + 3), 20);
        }
    }

    private void spanOfRightOnes() {
        edges.terms(6, SPAN);
        int[][] widths = {{0, 72}, {19, 72}, {20, 72}, {21, 71}, {60, 32}};
        for (int[] width : widths) {
            PinnaceView v = wide(100);
            style(v, 0, ALIGN, 2);
            box(v, 0, FLOAT, 2, WIDTH, width[0], HEIGHT, 50);
            int block = box(v, 0, MARGIN, 20);
            int text = text(v, block, 1);
            edges.word("a right one " + width[0] + " wide", v, text, 0, width[1], 20);
            int second = box(v, 0, FLOAT, 2, WIDTH, 3, HEIGHT, 50);
            v.move(second, 0, 1);
            edges.word("the less of two", v, text, 0, Math.min(72, 89 - width[0]), 20);
        }
    }

    private void spanAtTopsAndBottoms() {
        edges.terms(6, SPAN);
        int[][] heights = {{0, 60}, {9, 60}, {10, 70}, {19, 70}, {20, 0}, {21, 0}};
        for (int[] height : heights) {
            PinnaceView v = wide(100);
            box(v, 0, FLOAT, 1, WIDTH, 60, HEIGHT, 10);
            box(v, 0, FLOAT, 1, WIDTH, 70, HEIGHT, 10);
            box(v, 0, HEIGHT, height[0]);
            int text = text(v, 0, 1);
            edges.word("the cursor at " + height[0], v, text, 0, height[1], height[0]);
        }
        for (int margin = 0; margin <= 1; margin++) {
            PinnaceView v = wide(100);
            int floating = box(v, 0, FLOAT, 1, WIDTH, 30, HEIGHT, 0, MARGIN, margin);
            int text = text(v, 0, 1);
            edges.word("without height, MARGIN " + margin, v, text, 0, 32 * margin, 0);
            edges.same("it is there", v.xOf(floating), margin);
        }
    }

    private void spanOfItsRoom() {
        edges.terms(6, "those left FLOATS of the ROOM that are at y");
        PinnaceView v = wide(100);
        box(v, 0, FLOAT, 1, WIDTH, 30, HEIGHT, 50);
        int block = box(v, 0);
        int text = text(v, block, 1);
        edges.word("of the root's", v, text, 0, 30, 0);
        style(v, block, SCROLL, 1);
        edges.word("not in another ROOM", v, text, 0, 0, 0);
        int own = box(v, block, FLOAT, 1, WIDTH, 5, HEIGHT, 5);
        v.move(own, block, 0);
        edges.word("of its own ROOM", v, text, 0, 5, 0);
        style(v, block, SCROLL, 0);
        edges.word("of both, no ROOM", v, text, 0, 35, 0);
        style(v, block, FLOAT, 1);
        edges.word("in a FLOAT, below its own", v, text, 0, 30, 5);
        edges.same("which is beside the other", v.xOf(block), 30);
        int behind = text(v, 0, 1);
        edges.word("behind that FLOAT", v, behind, 0, 38, 0);
    }

    private void endsWithin() {
        edges.terms(6, "A line at the cursor takes words, as long as they end within the SPAN at the cursor.");
        PinnaceView v = wide(104);
        int text = text(v, 0, 4, 5, 2);
        edges.word("all three just end within", v, text, 2, 88, 0);
        edges.same("one line", v.lines(0), 1);
        v.setView(103);
        edges.word("the third does not", v, text, 2, 0, 16);
        v.setView(80);
        edges.word("two just do", v, text, 1, 40, 0);
        v.setView(79);
        edges.word("the second does not", v, text, 1, 0, 16);
        edges.word("the third goes on there", v, text, 2, 48, 16);
        v.addWord(text, 8);
        v.addWord(text, 1);
        edges.word("too wide for the second line", v, text, 3, 0, 32);
        edges.word("behind that, though the second line had room", v, text, 4, 0, 48);
        edges.same("as much as that", v.pageHeight(), 64);
    }

    private static final String DOWN = "If the first one does not: if FLOATS of the ROOM are at the cursor, the cursor goes down "
            + "to the least bottom of those, and the line begins anew there; otherwise the line takes that word alone.";

    private void goesDown() {
        edges.terms(6, DOWN);
        for (int side = 1; side <= 2; side++) {
            int[][] widths = {{59, 0}, {60, 0}, {61, 10}, {100, 10}, {101, 10}, {1000, 10}};
            for (int[] width : widths) {
                PinnaceView v = wide(100);
                box(v, 0, FLOAT, side, WIDTH, width[0], HEIGHT, 10);
                int text = text(v, 0, 5);
                int x = width[1] == 0 && side == 1 ? width[0] : 0;
                edges.word("beside one " + width[0] + " wide", v, text, 0, x, width[1]);
                edges.same("one line", v.lines(0), 1);
                edges.same("so high then", v.pageHeight(), width[1] + 16);
            }
        }
    }

    private void goesDownToTheLeast() {
        edges.terms(6, DOWN);
        PinnaceView v = wide(100);
        int left = box(v, 0, FLOAT, 1, WIDTH, 60, HEIGHT, 20);
        int right = box(v, 0, FLOAT, 2, WIDTH, 10, HEIGHT, 10);
        int text = text(v, 0, 5);
        edges.word("the right one's bottom", v, text, 0, 60, 10);
        style(v, left, WIDTH, 61);
        edges.word("then the left one's", v, text, 0, 0, 20);
        style(v, left, WIDTH, 30, HEIGHT, 10);
        style(v, right, WIDTH, 31, HEIGHT, 20);
        edges.word("the left one's bottom", v, text, 0, 0, 10);
        style(v, right, WIDTH, 61);
        edges.word("then the right one's", v, text, 0, 0, 20);
        style(v, left, HEIGHT, 20);
        edges.word("both at once", v, text, 0, 0, 20);
        int next = box(v, 0, HEIGHT, 1);
        edges.same("the cursor is below the line", v.yOf(next), 36);
    }

    private void goesDownForNothing() {
        edges.terms(6, DOWN);
        PinnaceView v = wide(100);
        int floating = box(v, 0, FLOAT, 1, WIDTH, 10, HEIGHT, 50);
        int block = box(v, 0, MARGIN, 30);
        int text = text(v, block, 6, 1);
        edges.word("down, though that one is not in the way", v, text, 0, 30, 50);
        edges.word("alone all the same", v, text, 1, 30, 66);
        style(v, block, SCROLL, 1);
        edges.word("not for those of another ROOM", v, text, 0, 30, 30);
        style(v, block, SCROLL, 0);
        style(v, floating, HEIGHT, 31);
        edges.word("its bottom one below the cursor", v, text, 0, 30, 31);
        style(v, floating, HEIGHT, 30);
        edges.word("its bottom at the cursor", v, text, 0, 30, 30);
    }

    private void takesItAlone() {
        edges.terms(6, "otherwise the line takes that word alone.");
        PinnaceView v = wide(39);
        int text = text(v, 0, 5, 1, 1, 12, 4);
        edges.word("too wide", v, text, 0, 0, 0);
        edges.word("not with that", v, text, 1, 0, 16);
        edges.word("two together", v, text, 2, 16, 16);
        edges.word("too wide again", v, text, 3, 0, 32);
        edges.word("the last", v, text, 4, 0, 48);
        edges.same("lines", v.lines(0), 4);
        style(v, 0, WIDTH, 0);
        edges.same("each alone, without any SPAN", v.lines(0), 5);
        edges.word("the last", v, text, 4, 0, 64);
    }

    private void manyWords() {
        edges.terms(6, "A line at the cursor takes words, as long as they end within the SPAN at the cursor.");
        PinnaceView v = wide(20);
        int last = 0;
        for (int texts = 0; texts < 22; texts++) {
            last = text(v, 0, 1, 1, 1, 1, 1, 1, 1, 1, 1, 1, 1, 1, 1, 1, 1, 1, 1, 1, 1, 1);
        }
        edges.same("440 words, a line for each", v.lines(0), 440);
        edges.word("the last of them", v, last, 19, 0, 439 * 16);
        edges.same("all of them", v.pageHeight(), 440 * 16);
        edges.same("their mean", v.meanLine(), 8.0);
        edges.same("125 just end within 1992", v.heightIn(1992), 4 * 16);
        edges.same("88 in each of five lines", v.heightIn(1400), 5 * 16);
        edges.same("87 in a line, six lines", v.heightIn(1399), 6 * 16);
        style(v, 0, WIDTH, 0);
        edges.same("each alone, without any SPAN", v.lines(0), 440);
    }

    private void asHighAs() {
        edges.terms(6, "A line is as high as its highest word; its words are at its top;");
        PinnaceView v = wide(100);
        int small = text(v, 0, 1);
        int inline = box(v, 0, DISPLAY, 2, FONT, 10);
        int big = text(v, inline, 1);
        int next = box(v, 0, HEIGHT, 1);
        edges.word("the small one", v, small, 0, 0, 0);
        edges.word("the big one", v, big, 0, 16, 0);
        edges.terms(6, "The cursor goes down by the height of the line.");
        edges.same("the big one last", v.yOf(next), 20);
        v.move(inline, 0, 0);
        edges.same("the big one first", v.yOf(next), 20);
        style(v, inline, FONT, 7);
        edges.same("then the other is higher", v.yOf(next), 16);
        style(v, inline, FONT, 40);
        v.setView(40);
        edges.word("in a line of its own", v, small, 0, 0, 80);
        edges.same("each as high as its own", v.yOf(next), 96);
    }

    private static final String ALIGNED = "they begin where the SPAN begins, if ALIGN of the box is 0; with half of what the SPAN has "
            + "more than the line ahead of them, if it is 1; with all of that, if it is 2 (nothing, if that is below 0).";

    private void align() {
        edges.terms(6, ALIGNED);
        int[][] widths = {{30, 0, 0}, {39, 0, 0}, {40, 0, 0}, {41, 0, 1}, {42, 1, 2}, {43, 1, 3}, {2000, 980, 1960}};
        for (int[] width : widths) {
            PinnaceView v = wide(width[0]);
            int text = text(v, 0, 5);
            edges.same("0 in " + width[0], v.wordX(text, 0), 0);
            style(v, 0, ALIGN, 1);
            edges.same("1 in " + width[0], v.wordX(text, 0), width[1]);
            style(v, 0, ALIGN, 2);
            edges.same("2 in " + width[0], v.wordX(text, 0), width[2]);
        }
        PinnaceView v = wide(100);
        int inline = box(v, 0, DISPLAY, 2, ALIGN, 2);
        int text = text(v, inline, 5);
        edges.same("of the box, not of what the text is in", v.wordX(text, 0), 0);
        style(v, 0, ALIGN, 1);
        style(v, inline, ALIGN, 0);
        edges.same("of the box", v.wordX(text, 0), 30);
    }

    private void alignBesideFloats() {
        edges.terms(6, ALIGNED);
        PinnaceView v = wide(100);
        int left = box(v, 0, FLOAT, 1, WIDTH, 20, HEIGHT, 10);
        box(v, 0, FLOAT, 2, WIDTH, 5, HEIGHT, 40);
        int text = text(v, 0, 5, 5);
        int[] first = {20, 37, 55};
        int[] second = {0, 27, 55};
        for (int align = 0; align <= 2; align++) {
            style(v, 0, ALIGN, align);
            edges.word("in the SPAN, " + align, v, text, 0, first[align], 0);
            edges.word("in the next SPAN, " + align, v, text, 1, second[align], 16);
        }
        style(v, left, WIDTH, 200);
        edges.word("where the line is in the end", v, text, 0, 7, 10);
    }

    private void linesOf() {
        edges.promise(35, "Returns how many lines the words of its FLOW are in; 0 if it is no box.");
        PinnaceView v = wide(100);
        int empty = v.addText(0);
        edges.same("no words", v.lines(0), 0);
        v.addWord(empty, 1);
        edges.same("one word", v.lines(0), 1);
        edges.same("a text is no box", v.lines(empty), 0);
        int block = box(v, 0);
        int floating = box(v, block, FLOAT, 1, WIDTH, 1);
        text(v, floating, 1, 1, 1);
        edges.same("not of a FLOAT in it", v.lines(block), 0);
        edges.same("the FLOAT's own", v.lines(floating), 3);
        edges.same("not of boxes in it", v.lines(0), 1);
        style(v, floating, DISPLAY, 0);
        edges.same("not SHOWN", v.lines(floating), 0);
        style(v, floating, DISPLAY, 2, FLOAT, 0);
        edges.same("INLINE", v.lines(floating), 0);
        edges.same("then of the box", v.lines(block), 1);
        style(v, block, WIDTH, 0);
        edges.same("a line for each", v.lines(block), 3);
    }

    private void wordNumbers() {
        edges.promise(36, "`word`: a word of it, from 0");
        PinnaceView v = wide(2000);
        int text = v.addText(0);
        for (int word = 0; word < 20; word++) {
            v.addWord(text, 1);
        }
        for (int word = 0; word < 20; word++) {
            edges.same("the x of " + word, v.wordX(text, word), 16 * word);
        }
        edges.promise(37, "Returns likewise the y.");
        v.setView(20);
        for (int word = 0; word < 20; word++) {
            edges.same("the y of " + word, v.wordY(text, word), 16 * word);
        }
        edges.same("twenty lines", v.lines(0), 20);
    }

    private void meanLine() {
        edges.promise(41, "Returns the mean width of all lines of all boxes, spaces counted, not cut; 0 without lines.");
        PinnaceView v = wide(100);
        edges.same("the root alone", v.meanLine(), 0.0);
        int text = v.addText(0);
        edges.same("a text without words", v.meanLine(), 0.0);
        v.addWord(text, 1);
        edges.same("one line", v.meanLine(), 8.0);
        v.addWord(text, 1);
        edges.same("with the space", v.meanLine(), 24.0);
        int block = box(v, 0, SCROLL, 1, WIDTH, 1, HEIGHT, 0, FONT, 1);
        text(v, block, 1, 12);
        edges.same("of the other box too, not cut there", v.meanLine(), 37.0 / 3);
        style(v, block, DISPLAY, 0);
        edges.same("not of those not SHOWN", v.meanLine(), 24.0);
        style(v, block, DISPLAY, 1, WIDTH, 30);
        edges.same("in one line again", v.meanLine(), 19.0);
        style(v, block, FONT, 2);
        edges.same("half", v.meanLine(), 26.0);
        style(v, block, FONT, 3);
        edges.same("three lines", v.meanLine(), 21.0);
        v.takeAway(text);
        edges.same("not cut to a whole number", v.meanLine(), 19.5);
        v.takeAway(block);
        edges.same("0 again", v.meanLine(), 0.0);
    }
}
