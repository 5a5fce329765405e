/** Edges of what is shown, of boxes, blocks and their heights: Terms 5, promises 28 to 33 and 38. */
final class BlockEdges extends Build {
    private final Edges edges;

    BlockEdges(Edges edges) {
        this.edges = edges;
    }

    void check() {
        shown();
        sorts();
        noBoxes();
        edge();
        rooms();
        flow();
        rootsContent();
        beginning();
        waitingWords();
        lefts();
        floatsInTheFlow();
        marginLessGap();
        clearIsNotUp();
        clearOfSides();
        clearOfTheRoomItIsIn();
        widthOfBlocks();
        downByItsHeight();
        reach();
        reachOfNoRoom();
        height();
        pageHeight();
    }

    private void shown() {
        edges.terms(5, "A node is SHOWN, if neither it nor an ancestor of it is an element but the root that has 0 of DISPLAY.");
        PinnaceView v = wide(100);
        style(v, 0, DISPLAY, 0);
        int block = box(v, 0);
        int text = text(v, block, 1);
        int hidden = box(v, 0, DISPLAY, 0, HEIGHT, 50, SCROLL, 1);
        int inHidden = box(v, hidden, HEIGHT, 50);
        int deepText = text(v, inHidden, 2);
        int hiddenText = text(v, hidden, 3);
        int asRoot = box(v, 0, DISPLAY, 9999, HEIGHT, 50);
        int floating = box(v, 0, DISPLAY, 0, FLOAT, 1, HEIGHT, 50);
        edges.same("the root", v.sortOf(0), 3);
        edges.same("its child", v.sortOf(block), 3);
        edges.same("a text in that", v.sortOf(text), 1);
        for (int node : new int[] {hidden, inHidden, deepText, hiddenText, asRoot, floating}) {
            edges.same("not " + node, v.sortOf(node), 0);
            edges.place("no place of " + node, v, node, -9999, -9999, -1, -1);
        }
        edges.same("they take no room", v.pageHeight(), 16);
        edges.promise(36, "Returns where the word begins, as it is moved: the x; -9999 if the text is not SHOWN.");
        edges.word("far in it", v, deepText, 0, -9999, -9999);
        edges.word("in it", v, hiddenText, 0, -9999, -9999);
        edges.promise(40, "Returns how many of its words are seen at their left upper corners: not CUT there; "
                + "0 if it is not SHOWN.");
        edges.same("far in it", v.seen(deepText), 0);
        edges.same("one that is", v.seen(text), 1);
        v.declare(hidden, DISPLAY, 1);
        edges.same("now it is", v.seen(deepText), 1);
    }

    private void sorts() {
        edges.terms(5, "An element that is SHOWN is a FLOAT, if it has 1 or 2 of FLOAT, and is not the root; otherwise a BLOCK, "
                + "if it has 1 of DISPLAY, or is the root; otherwise it is INLINE.");
        PinnaceView v = new PinnaceView();
        int element = v.addElement(0, 0);
        for (int display = 0; display <= 2; display++) {
            for (int side = 0; side <= 2; side++) {
                style(v, element, DISPLAY, display, FLOAT, side);
                style(v, 0, DISPLAY, display, FLOAT, side);
                int due = display == 0 ? 0 : side > 0 ? 4 : display == 1 ? 3 : 2;
                edges.same("DISPLAY " + display + ", FLOAT " + side, v.sortOf(element), due);
                edges.same("the root", v.sortOf(0), 3);
            }
        }
        edges.promise(28, "Returns 0 not SHOWN (a text as well), 1 a text, 2 INLINE, 3 a BLOCK, 4 a FLOAT.");
        style(v, element, DISPLAY, 0);
        edges.same("a text that is not", v.sortOf(v.addText(element)), 0);
        edges.same("a text without words", v.sortOf(v.addText(0)), 1);
    }

    private void noBoxes() {
        edges.terms(5, "Only BLOCKS and FLOATS (both: BOXES) have a place of their own.");
        PinnaceView v = wide(100);
        int inline = box(v, 0, DISPLAY, 2, WIDTH, 50, HEIGHT, 50, SCROLL, 1, LEFT, 3, TOP, 3, MARGIN, 9);
        int text = text(v, inline, 4);
        v.scroll(inline, 5);
        int[] nodes = {inline, text};
        String[] saying = {"Returns where its BORDER begins, as it is moved: the x; -9999 if it is no box.",
            "Returns likewise the y; -9999 if it is no box.",
            "Returns how wide it is, with its BORDERS and PADDING, without MARGIN; -1 if it is no box.",
            "Returns how high it is, with its BORDERS and PADDING, without MARGIN; -1 if it is no box.",
            "Returns its REACH; -1 if it is no box.",
            "Returns by how much its content is moved up, as it scrolls; 0 if it is no box that has 1 of SCROLL.",
            "Returns how many lines the words of its FLOW are in; 0 if it is no box."};
        for (int node : nodes) {
            int[] got = {v.xOf(node), v.yOf(node), v.wideOf(node), v.highOf(node), v.reachOf(node), v.scrolled(node),
                v.lines(node)};
            int[] due = {-9999, -9999, -1, -1, -1, 0, 0};
            for (int i = 0; i < got.length; i++) {
                edges.promise(29 + i, saying[i]);
                edges.same("no box", got[i], due[i]);
            }
        }
        edges.same("the root's line", v.lines(0), 1);
        edges.word("no EDGE of INLINE ones", v, text, 0, 0, 0);
    }

    private void edge() {
        edges.terms(5, "A box has its content; round it PADDING, BORDER and MARGIN, on all four sides; "
                + "EDGE is the sum of these three.");
        PinnaceView v = wide(2000);
        int block = box(v, 0, PADDING, 100, BORDER, 20, MARGIN, 100);
        int inner = box(v, block, HEIGHT, 1);
        edges.place("the greatest", v, block, 100, 100, 1800, 241);
        edges.place("what is in it", v, inner, 220, 220, 1560, 1);
        edges.same("the page", v.pageHeight(), 441);
        style(v, block, PADDING, 0, BORDER, 0, MARGIN, 0);
        edges.place("the least", v, block, 0, 0, 2000, 1);
        style(v, block, MARGIN, 1);
        edges.place("MARGIN", v, block, 1, 1, 1998, 1);
        style(v, block, BORDER, 2);
        edges.place("BORDER", v, block, 1, 1, 1998, 5);
        style(v, block, PADDING, 4, FLOAT, 2, WIDTH, 10);
        edges.place("a FLOAT", v, block, 1977, 1, 22, 13);
        edges.place("in the FLOAT", v, inner, 1983, 7, 10, 1);
    }

    private void rooms() {
        edges.terms(5, "The root, each FLOAT, and each BLOCK that has 1 of SCROLL is a ROOM: "
                + "FLOATS belong to the nearest ROOM that they are in.");
        PinnaceView v = wide(100);
        int block = box(v, 0);
        int inline = box(v, block, DISPLAY, 2, SCROLL, 1);
        int floating = box(v, inline, FLOAT, 1, WIDTH, 10, HEIGHT, 30);
        edges.same("no ROOM", v.reachOf(block), 0);
        edges.same("the root", v.reachOf(0), 30);
        style(v, block, SCROLL, 1, HEIGHT, 5);
        edges.same("a BLOCK with 1 of SCROLL", v.reachOf(block), 30);
        edges.same("then not the root", v.reachOf(0), 5);
        style(v, block, SCROLL, 0, FLOAT, 2);
        edges.same("a FLOAT", v.reachOf(block), 30);
        edges.same("the root has that alone", v.reachOf(0), 5);
        int inner = box(v, floating, FLOAT, 1, HEIGHT, 70);
        edges.same("the nearest", v.reachOf(floating), 70);
        edges.same("not the one round it", v.reachOf(block), 30);
        edges.same("its own reach", v.reachOf(inner), 0);
        style(v, floating, FLOAT, 0, HEIGHT, 1);
        edges.same("no FLOAT any more, then the next", v.reachOf(block), 70);
        edges.same("its own without", v.reachOf(floating), 0);
    }

    private void flow() {
        edges.terms(5, "The FLOW of a box are its SHOWN children, in order, each INLINE one replaced by its own SHOWN children, "
                + "and so on: it has texts, BLOCKS and FLOATS.");
        PinnaceView v = wide(200);
        int first = text(v, 0, 1);
        int inline = box(v, 0, DISPLAY, 2);
        int second = text(v, inline, 2);
        int inner = box(v, inline, DISPLAY, 2);
        int third = text(v, inner, 3);
        int hidden = box(v, inline, DISPLAY, 0);
        text(v, hidden, 12);
        box(v, inline, DISPLAY, 2, PADDING, 50, HEIGHT, 100);
        int fourth = text(v, 0, 5);
        edges.word("first", v, first, 0, 0, 0);
        edges.word("second", v, second, 0, 16, 0);
        edges.word("third", v, third, 0, 40, 0);
        edges.word("fourth", v, fourth, 0, 72, 0);
        edges.same("one line", v.lines(0), 1);
        edges.same("as high as that", v.pageHeight(), 16);
        v.move(fourth, inline, 0);
        edges.word("moved ahead of the second", v, fourth, 0, 16, 0);
        edges.word("the second", v, second, 0, 64, 0);
        style(v, inner, DISPLAY, 1);
        edges.word("a BLOCK's own FLOW", v, third, 0, 0, 16);
        edges.same("no line of it", v.lines(0), 1);
        edges.same("its own line", v.lines(inner), 1);
    }

    private void rootsContent() {
        edges.terms(5, "The root's content is WIDTH wide, or, if that is auto, as wide as the view less 2 * EDGE (not below 0), "
                + "and begins at x = EDGE and y = EDGE.");
        PinnaceView v = wide(20);
        int block = box(v, 0, HEIGHT, 1);
        int[][] margins = {{0, 20}, {9, 2}, {10, 0}, {11, 0}, {100, 0}};
        for (int[] margin : margins) {
            style(v, 0, MARGIN, margin[0]);
            edges.place("MARGIN " + margin[0], v, 0, margin[0], margin[0], margin[1], 1);
            edges.place("in it", v, block, margin[0], margin[0], margin[1], 1);
        }
        style(v, 0, MARGIN, 2, PADDING, 5, BORDER, 4);
        edges.place("below 0, with EDGE", v, 0, 2, 2, 18, 19);
        edges.place("in it", v, block, 11, 11, 0, 1);
        style(v, 0, WIDTH, 0);
        edges.same("WIDTH 0", v.wideOf(block), 0);
        style(v, 0, WIDTH, 1);
        edges.same("WIDTH 1", v.wideOf(block), 1);
        style(v, 0, WIDTH, 1000);
        edges.same("WIDTH 1000", v.wideOf(block), 1000);
        edges.same("with EDGE", v.wideOf(0), 1018);
        style(v, 0, WIDTH, -1, MARGIN, 0, PADDING, 0, BORDER, 0);
        v.setView(2000);
        edges.same("auto again", v.wideOf(block), 2000);
    }

    private void beginning() {
        edges.terms(5, "A cursor is at the top, GAP is 0; what is in the FLOW comes one by one: the words of a text wait.");
        PinnaceView v = wide(100);
        box(v, 0, MARGIN, 9, HEIGHT, 1);
        int block = box(v, 0, MARGIN, 9, PADDING, 3);
        int inner = box(v, block, MARGIN, 4, HEIGHT, 1);
        edges.same("GAP 9 ahead of it", v.yOf(block), 19);
        edges.same("GAP 0 in it", v.yOf(inner), 26);
        edges.same("its REACH", v.reachOf(block), 9);
        int next = box(v, 0, MARGIN, 9, HEIGHT, 1);
        edges.same("GAP is its own MARGIN again", v.yOf(next), 43);
        int nothing = box(v, 0);
        edges.same("nothing in it", v.reachOf(nothing), 0);
        edges.same("its height", v.highOf(nothing), 0);
        edges.same("no lines of it", v.lines(nothing), 0);
    }

    private void waitingWords() {
        edges.terms(5, "Ahead of each BLOCK and each FLOAT, and in the end, if any words wait, "
                + "these are put into lines (see 6), and GAP is 0.");
        PinnaceView v = wide(100);
        box(v, 0, MARGIN, 5, HEIGHT, 10);
        int text = v.addText(box(v, 0, DISPLAY, 2));
        int block = box(v, 0, MARGIN, 5, HEIGHT, 10);
        edges.same("no words, the GAP stays", v.yOf(block), 20);
        v.addWord(text, 1);
        edges.same("a word, GAP is 0", v.yOf(block), 41);
        int before = text(v, 0, 2);
        int floating = box(v, 0, FLOAT, 1, WIDTH, 10, HEIGHT, 3);
        edges.word("ahead of a FLOAT", v, before, 0, 0, 56);
        edges.same("the FLOAT is below that line", v.yOf(floating), 72);
        int last = text(v, 0, 2);
        edges.word("in the end", v, last, 0, 10, 72);
        edges.same("reach in the end", v.reachOf(0), 88);
        edges.same("not in one line with those ahead", v.lines(0), 3);
        v.move(last, 0, 4);
        edges.same("together ahead of the FLOAT", v.lines(0), 2);
        edges.word("behind the others", v, last, 0, 24, 56);
    }

    private void lefts() {
        edges.terms(5, "The content of a box that begins at x = left and y = top, and is as wide as from left to right, "
                + "is laid out as follows.");
        PinnaceView v = wide(100);
        style(v, 0, PADDING, 3);
        int outer = box(v, 0, PADDING, 4, MARGIN, 1, WIDTH, 50);
        int block = box(v, outer, HEIGHT, 2);
        int text = text(v, outer, 1);
        int right = box(v, outer, FLOAT, 2, WIDTH, 10, HEIGHT, 2);
        edges.place("a BLOCK", v, block, 8, 8, 50, 2);
        edges.word("a word", v, text, 0, 8, 10);
        edges.place("a right FLOAT", v, right, 48, 26, 10, 2);
        style(v, outer, WIDTH, 0);
        edges.place("a BLOCK, nothing between left and right", v, block, 8, 8, 0, 2);
        edges.word("a word there", v, text, 0, 8, 10);
        edges.place("a right FLOAT there", v, right, -2, 26, 10, 2);
    }

    private void floatsInTheFlow() {
        edges.terms(5, "A FLOAT is put as said in 7.");
        PinnaceView v = wide(100);
        int left = box(v, 0, FLOAT, 1, WIDTH, 30, HEIGHT, 9);
        int right = box(v, 0, FLOAT, 2, WIDTH, 70, HEIGHT, 9, DISPLAY, 2);
        edges.place("a left one", v, left, 0, 0, 30, 9);
        edges.place("a right one, just beside it", v, right, 30, 0, 70, 9);
        style(v, right, WIDTH, 71);
        edges.place("just not", v, right, 29, 9, 71, 9);
    }

    private void marginLessGap() {
        edges.terms(5, "the cursor goes down by MARGIN less GAP, if that is more than 0");
        int[][] margins = {{0, 20}, {1, 20}, {4, 20}, {5, 20}, {6, 21}, {100, 115}};
        for (int[] margin : margins) {
            PinnaceView v = wide(100);
            int first = box(v, 0, MARGIN, 5, HEIGHT, 10);
            int second = box(v, 0, MARGIN, margin[0], HEIGHT, 10);
            int third = box(v, 0, HEIGHT, 10);
            edges.same("the first", v.yOf(first), 5);
            edges.same("MARGIN " + margin[0] + " behind 5", v.yOf(second), margin[1]);
            edges.same("MARGIN 0 behind that", v.yOf(third), margin[1] + 10 + margin[0]);
            v.move(third, 0, 1);
            edges.same("GAP 0 behind MARGIN 0", v.yOf(second), 30 + margin[0]);
        }
    }

    private void clearIsNotUp() {
        edges.terms(5, "if CLEAR is 1, 2 or 3, and the cursor is above the lowest bottom of the left ones, the right ones, "
                + "or all FLOATS of the ROOM that the BLOCK is in (not of itself), it goes down to that.");
        for (int side = 1; side <= 2; side++) {
            for (int margin : new int[] {0, 9, 10, 11}) {
                PinnaceView v = wide(100);
                box(v, 0, FLOAT, side, WIDTH, 10, HEIGHT, 8, MARGIN, 1);
                int block = box(v, 0, MARGIN, margin, HEIGHT, 5);
                for (int clear = 0; clear <= 3; clear++) {
                    style(v, block, CLEAR, clear);
                    boolean isOf = clear == 3 || clear == side;
                    int due = isOf ? Math.max(10, margin) : margin;
                    edges.same("MARGIN " + margin + ", CLEAR " + clear + " of side " + side, v.yOf(block), due);
                    edges.same("the page", v.pageHeight(), Math.max(10, due + 5 + margin));
                }
            }
        }
        PinnaceView v = wide(100);
        int block = box(v, 0, MARGIN, 7, CLEAR, 3);
        edges.same("no FLOATS", v.yOf(block), 7);
        box(v, 0, FLOAT, 1, HEIGHT, 50);
        edges.same("none ahead of it", v.yOf(block), 7);
    }

    private void clearOfSides() {
        PinnaceView v = wide(100);
        int[] floats = new int[4];
        int[][] each = {{1, 50}, {1, 30}, {2, 40}, {2, 20}};
        for (int i = 0; i < 4; i++) {
            floats[i] = box(v, 0, FLOAT, each[i][0], WIDTH, 10, HEIGHT, each[i][1]);
        }
        int block = box(v, 0);
        int[][] heights = {{50, 30, 40, 20, 50, 40, 50}, {30, 50, 20, 40, 50, 40, 50}, {10, 20, 40, 30, 20, 40, 40},
            {0, 0, 7, 0, 0, 7, 7}};
        for (int[] due : heights) {
            for (int i = 0; i < 4; i++) {
                style(v, floats[i], HEIGHT, due[i]);
            }
            for (int clear = 1; clear <= 3; clear++) {
                style(v, block, CLEAR, clear);
                edges.same("the lowest bottom for " + clear, v.yOf(block), due[3 + clear]);
            }
        }
    }

    private void clearOfTheRoomItIsIn() {
        PinnaceView v = wide(100);
        box(v, 0, FLOAT, 1, WIDTH, 10, HEIGHT, 30);
        int block = box(v, 0, SCROLL, 1, CLEAR, 3, HEIGHT, 5);
        box(v, block, FLOAT, 1, WIDTH, 10, HEIGHT, 60);
        int inner = box(v, block, CLEAR, 3);
        edges.same("of the ROOM that it is in", v.yOf(block), 30);
        edges.same("in it, of it", v.yOf(inner), 90);
        style(v, block, CLEAR, 0);
        edges.same("not cleared", v.yOf(block), 0);
        edges.same("in it, of it alone", v.yOf(inner), 60);
        style(v, block, SCROLL, 0);
        edges.same("no ROOM, of the root's", v.yOf(inner), 60);
        int second = box(v, 0, CLEAR, 1);
        edges.same("FLOATS out of another BLOCK", v.yOf(second), 60);
        style(v, block, SCROLL, 1);
        edges.same("not out of a ROOM", v.yOf(second), 30);
    }

    private void widthOfBlocks() {
        edges.terms(5, "There, and at x = left + MARGIN, its BORDER begins; its content is WIDTH wide, or, if that is auto, "
                + "right - left - 2 * EDGE, not below 0, and is laid out;");
        PinnaceView v = wide(100);
        int outer = box(v, 0, WIDTH, 10, PADDING, 1);
        int block = box(v, outer, HEIGHT, 1);
        int inner = box(v, block, HEIGHT, 1);
        int[][] margins = {{0, 10}, {4, 2}, {5, 0}, {6, 0}, {100, 0}};
        for (int[] margin : margins) {
            style(v, block, MARGIN, margin[0]);
            edges.place("MARGIN " + margin[0], v, block, 1 + margin[0], 1 + margin[0], margin[1], 1);
            edges.same("in it", v.wideOf(inner), margin[1]);
        }
        style(v, block, MARGIN, 1, BORDER, 2, PADDING, 3);
        edges.place("EDGE 6", v, block, 2, 2, 10, 11);
        edges.place("in it", v, inner, 7, 7, 0, 1);
        for (int width : new int[] {0, 1, 1000}) {
            style(v, block, WIDTH, width);
            edges.same("WIDTH " + width, v.wideOf(block), width + 10);
            edges.same("in it, WIDTH " + width, v.wideOf(inner), width);
            edges.same("its parent", v.wideOf(outer), 12);
        }
    }

    private void downByItsHeight() {
        edges.terms(5, "then the cursor goes down by the height of its content, 2 * (BORDER + PADDING), and MARGIN, "
                + "and GAP is MARGIN.");
        PinnaceView v = wide(100);
        int block = box(v, 0, HEIGHT, 10, BORDER, 1, PADDING, 2, MARGIN, 4);
        int next = box(v, 0, HEIGHT, 1);
        edges.same("the next one", v.yOf(next), 24);
        style(v, next, MARGIN, 4);
        edges.same("GAP is 4", v.yOf(next), 24);
        style(v, next, MARGIN, 5);
        edges.same("more than GAP", v.yOf(next), 25);
        style(v, block, HEIGHT, 0, BORDER, 0, PADDING, 0);
        edges.same("no height, two MARGINS", v.yOf(next), 9);
        style(v, block, MARGIN, 0);
        edges.same("nothing at all", v.yOf(next), 5);
        style(v, next, MARGIN, 0);
        edges.same("nothing there either", v.yOf(next), 0);
    }

    private void reach() {
        edges.terms(5, "REACH of a box is the cursor in the end less the top; "
                + "of a ROOM it is at least the lowest bottom of its FLOATS less the top.");
        for (int high : new int[] {0, 19, 20, 21, 1000}) {
            PinnaceView v = wide(100);
            style(v, 0, PADDING, 3);
            int floating = box(v, 0, FLOAT, 1, WIDTH, 10, HEIGHT, high);
            box(v, 0, FLOAT, 2, WIDTH, 10, HEIGHT, 5);
            int block = box(v, 0, HEIGHT, 20);
            edges.same("FLOAT " + high + " high", v.reachOf(0), Math.max(20, high));
            style(v, floating, MARGIN, 1);
            edges.same("with its MARGIN", v.reachOf(0), Math.max(20, high + 2));
            v.takeAway(block);
            edges.same("FLOATS alone", v.reachOf(0), Math.max(5, high + 2));
        }
        edges.same("nothing", new PinnaceView().reachOf(0), 0);
        PinnaceView v = wide(100);
        box(v, 0, HEIGHT, 7);
        text(v, 0, 1);
        edges.same("with the last line", v.reachOf(0), 23);
    }

    private void reachOfNoRoom() {
        PinnaceView v = wide(100);
        int block = box(v, 0, PADDING, 2);
        int floating = box(v, block, FLOAT, 1, WIDTH, 10, HEIGHT, 50);
        edges.same("a BLOCK that is no ROOM", v.reachOf(block), 0);
        edges.same("its height", v.highOf(block), 4);
        edges.same("the root", v.reachOf(0), 52);
        style(v, block, SCROLL, 1);
        edges.same("a BLOCK that is a ROOM", v.reachOf(block), 50);
        style(v, block, SCROLL, 0, FLOAT, 1);
        edges.same("a FLOAT", v.reachOf(block), 50);
        style(v, floating, FLOAT, 0);
        edges.same("a BLOCK in it", v.reachOf(block), 50);
        style(v, floating, DISPLAY, 0);
        edges.same("nothing in it", v.reachOf(block), 0);
    }

    private void height() {
        edges.terms(5, "The height of its content is HEIGHT, or, if that is auto, REACH.");
        PinnaceView v = wide(100);
        int block = box(v, 0, PADDING, 1);
        int inner = box(v, block, HEIGHT, 30);
        int next = box(v, 0);
        int[][] heights = {{-1, 32}, {0, 2}, {1, 3}, {30, 32}, {31, 33}, {1000, 1002}};
        for (int[] height : heights) {
            style(v, block, HEIGHT, height[0]);
            edges.same("HEIGHT " + height[0], v.highOf(block), height[1]);
            edges.same("the next one, HEIGHT " + height[0], v.yOf(next), height[1]);
            edges.same("REACH all the same", v.reachOf(block), 30);
        }
        style(v, inner, DISPLAY, 0);
        style(v, block, HEIGHT, -1);
        edges.same("auto, nothing in it", v.highOf(block), 2);
    }

    private void pageHeight() {
        edges.promise(38, "Returns the y at which the root ends, MARGIN counted, as it is laid out, not moved by TOP.");
        PinnaceView v = new PinnaceView();
        edges.same("nothing", v.pageHeight(), 0);
        style(v, 0, MARGIN, 100, PADDING, 100, BORDER, 20, HEIGHT, 1000);
        edges.same("the greatest", v.pageHeight(), 1440);
        style(v, 0, HEIGHT, 0);
        edges.same("HEIGHT 0", v.pageHeight(), 440);
        for (int top : new int[] {-500, 500}) {
            style(v, 0, TOP, top, LEFT, top);
            edges.same("not moved", v.pageHeight(), 440);
            edges.same("but the root is", v.yOf(0), 100 + top);
        }
        style(v, 0, SCROLL, 1);
        box(v, 0, HEIGHT, 30);
        v.scroll(0, 20);
        edges.same("nor scrolled", v.pageHeight(), 440);
        edges.same("but the root is", v.scrolled(0), 20);
    }
}
