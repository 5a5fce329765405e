/** Promises 28 to 41: boxes and lines. */
public final class BoxTest extends Build {
    private static final Checker CHECK = new Checker("BoxTest");

    private BoxTest() {
    }

    public static void main(String[] args) {
        sorts();
        blocks();
        widths();
        gaps();
        clearsOfBlocks();
        lines();
        fontsOfLines();
        linesBesideFloats();
        linesGoDown();
        floatsSideBySide();
        floatsGoDown();
        floatsAndCursor();
        wishes();
        rooms();
        moved();
        scrolling();
        cut();
        hits();
        meanLine();
        deepFlow();
        deepRooms();
        CHECK.end();
    }

    /** x, y, and how wide and high a box is. */
    private static void place(String what, PinnaceView v, int node, int x, int y, int wide, int high) {
        CHECK.same(what + ", the x", v.xOf(node), x);
        CHECK.same(what + ", the y", v.yOf(node), y);
        CHECK.same(what + ", how wide", v.wideOf(node), wide);
        CHECK.same(what + ", how high", v.highOf(node), high);
    }

    private static void word(String what, PinnaceView v, int text, int word, int x, int y) {
        CHECK.same(what + ", the x", v.wordX(text, word), x);
        CHECK.same(what + ", the y", v.wordY(text, word), y);
    }

    private static void sorts() {
        PinnaceView v = new PinnaceView();
        style(v, 0, DISPLAY, 0, FLOAT, 1);
        int block = box(v, 0);
        int inline = box(v, block, DISPLAY, 2);
        int left = box(v, inline, DISPLAY, 2, FLOAT, 1);
        int right = box(v, left, FLOAT, 2);
        int shown = text(v, right, 1);
        int hidden = box(v, inline, DISPLAY, 0, FLOAT, 1);
        int inHidden = box(v, hidden);
        int hiddenText = text(v, inHidden, 3);
        int asRoot = box(v, 0, DISPLAY, 9999);
        CHECK.same("28 the root", v.sortOf(0), 3);
        CHECK.same("28 a block", v.sortOf(block), 3);
        CHECK.same("28 inline", v.sortOf(inline), 2);
        CHECK.same("28 a left float", v.sortOf(left), 4);
        CHECK.same("28 a right float", v.sortOf(right), 4);
        CHECK.same("28 a text", v.sortOf(shown), 1);
        CHECK.same("28 hidden", v.sortOf(hidden), 0);
        CHECK.same("28 in what is hidden", v.sortOf(inHidden), 0);
        CHECK.same("28 a text in what is hidden", v.sortOf(hiddenText), 0);
        CHECK.same("28 none, as the root has it", v.sortOf(asRoot), 0);
        for (int node : new int[] {inline, shown, hidden, inHidden, hiddenText}) {
            place("29 to 32 no box " + node, v, node, -9999, -9999, -1, -1);
            CHECK.same("33 no box " + node, v.reachOf(node), -1);
            CHECK.same("34 no box " + node, v.scrolled(node), 0);
            CHECK.same("35 no box " + node, v.lines(node), 0);
        }
        word("36 37 not shown", v, hiddenText, 0, -9999, -9999);
        CHECK.same("40 not shown", v.seen(hiddenText), 0);
        v.declare(hidden, DISPLAY, 2);
        CHECK.same("28 shown again", v.sortOf(hiddenText), 1);
        CHECK.same("40 shown again", v.seen(hiddenText), 1);
    }

    private static void blocks() {
        PinnaceView v = new PinnaceView();
        style(v, 0, MARGIN, 1, BORDER, 1, PADDING, 2);
        int block = box(v, 0, MARGIN, 3, BORDER, 2, PADDING, 5, HEIGHT, 20);
        place("29 to 32 the root", v, 0, 1, 1, 398, 46);
        place("29 to 32 a block", v, block, 7, 7, 386, 34);
        CHECK.same("33 nothing in it", v.reachOf(block), 0);
        CHECK.same("33 the root", v.reachOf(0), 40);
        CHECK.same("38 with all edges", v.pageHeight(), 48);
        v.declare(0, HEIGHT, 5);
        CHECK.same("38 the height that is declared", v.pageHeight(), 13);
        CHECK.same("33 reach all the same", v.reachOf(0), 40);
    }

    private static void widths() {
        PinnaceView v = wide(100);
        int outer = box(v, 0, WIDTH, 150, PADDING, 1);
        int inner = box(v, outer, MARGIN, 2);
        int narrow = box(v, outer, WIDTH, 0);
        CHECK.same("31 wider than the view", v.wideOf(outer), 152);
        CHECK.same("31 auto, in that", v.wideOf(inner), 146);
        CHECK.same("31 none", v.wideOf(narrow), 0);
        v.declare(outer, WIDTH, -1);
        CHECK.same("31 auto", v.wideOf(outer), 100);
        v.declare(inner, MARGIN, 60);
        v.declare(inner, PADDING, 1);
        CHECK.same("31 not below 0", v.wideOf(inner), 2);
        CHECK.same("29 out to the right", v.xOf(inner), 61);
        v.declare(0, MARGIN, 60);
        CHECK.same("31 nor the root", v.wideOf(0), 0);
        v.declare(0, WIDTH, 70);
        CHECK.same("31 the root as declared", v.wideOf(0), 70);
        CHECK.same("29 the root behind its margin", v.xOf(0), 60);
    }

    private static void gaps() {
        PinnaceView v = wide(100);
        int first = box(v, 0, MARGIN, 5, HEIGHT, 10);
        int empty = text(v, 0);
        int second = box(v, 0, MARGIN, 8, HEIGHT, 10);
        int third = box(v, 0, MARGIN, 2, HEIGHT, 10);
        CHECK.same("30 first", v.yOf(first), 5);
        CHECK.same("30 the margin less the gap", v.yOf(second), 23);
        CHECK.same("30 nothing, if the gap is more", v.yOf(third), 41);
        CHECK.same("33 with the last margin", v.reachOf(0), 53);
        v.addWord(empty, 1);
        CHECK.same("30 no gap behind words", v.yOf(second), 44);
        v.takeAway(empty);
        int floating = box(v, 0, FLOAT, 1, HEIGHT, 3);
        v.move(floating, 0, 1);
        CHECK.same("30 the gap stays at a float", v.yOf(second), 23);
        int inner = box(v, second, MARGIN, 9);
        CHECK.same("30 no gap at the beginning of a box", v.yOf(inner), 32);
        CHECK.same("33 in the box", v.reachOf(second), 18);
        v.declare(second, HEIGHT, -1);
        CHECK.same("32 the reach", v.highOf(second), 18);
        CHECK.same("30 gap of the outer one", v.yOf(third), 49);
    }

    private static void clearsOfBlocks() {
        PinnaceView v = wide(100);
        box(v, 0, FLOAT, 1, WIDTH, 10, HEIGHT, 30);
        box(v, 0, FLOAT, 2, WIDTH, 10, HEIGHT, 50, MARGIN, 1);
        int block = box(v, 0, MARGIN, 4, HEIGHT, 10);
        CHECK.same("30 not cleared", v.yOf(block), 4);
        v.declare(block, CLEAR, 1);
        CHECK.same("30 below the left ones", v.yOf(block), 30);
        v.declare(block, CLEAR, 2);
        CHECK.same("30 below the right ones, margins counted", v.yOf(block), 52);
        v.declare(block, CLEAR, 3);
        CHECK.same("30 below both", v.yOf(block), 52);
        int inner = box(v, block, CLEAR, 1);
        v.declare(block, CLEAR, 0);
        CHECK.same("30 floats of the room, out of the parent", v.yOf(inner), 30);
        v.declare(block, SCROLL, 1);
        CHECK.same("30 not of another room", v.yOf(inner), 4);
        v.declare(block, CLEAR, 1);
        box(v, block, FLOAT, 1, HEIGHT, 90);
        CHECK.same("30 of the room that it is in, not of itself", v.yOf(block), 30);
        v.declare(block, MARGIN, 60);
        CHECK.same("30 below them by its margin", v.yOf(block), 60);
    }

    private static void lines() {
        PinnaceView v = wide(100);
        int text = text(v, 0, 4, 5, 3);
        word("36 37 first", v, text, 0, 0, 0);
        word("36 37 second", v, text, 1, 40, 0);
        word("36 37 in the next line", v, text, 2, 0, 16);
        CHECK.same("35 two lines", v.lines(0), 2);
        CHECK.same("33 two lines high", v.reachOf(0), 32);
        v.declare(0, ALIGN, 1);
        word("36 middle", v, text, 0, 10, 0);
        word("36 middle", v, text, 1, 50, 0);
        word("36 middle", v, text, 2, 38, 16);
        v.setView(101);
        word("36 half is cut", v, text, 0, 10, 0);
        v.declare(0, ALIGN, 2);
        word("36 right", v, text, 0, 21, 0);
        word("36 right", v, text, 2, 77, 16);
        v.setView(80);
        word("36 ends where the span ends", v, text, 1, 40, 0);
        v.setView(79);
        word("36 does not end within it", v, text, 1, 7, 16);
        v.setView(30);
        word("36 wider than the span, alone", v, text, 0, 0, 0);
        word("36 alone too", v, text, 1, 0, 16);
        word("36 has room", v, text, 2, 6, 32);
        CHECK.same("35 three lines", v.lines(0), 3);
        CHECK.same("35 of its own flow", v.lines(box(v, 0)), 0);
    }

    private static void fontsOfLines() {
        PinnaceView v = wide(200);
        int inline = box(v, 0, DISPLAY, 2, FONT, 10, MARGIN, 50, ALIGN, 2);
        int big = text(v, inline, 3);
        int small = text(v, 0, 5);
        v.declare(0, FONT, 4);
        word("36 the space of the first", v, small, 0, 40, 0);
        CHECK.same("33 as high as its highest word", v.reachOf(0), 20);
        CHECK.same("35 an inline one's words", v.lines(0), 1);
        v.move(inline, 0, 1);
        word("36 the space of the smaller one", v, big, 0, 24, 0);
        word("37 at the top", v, small, 0, 0, 0);
        int block = box(v, inline, MARGIN, 2, HEIGHT, 6);
        int behind = text(v, inline, 1);
        CHECK.same("30 a block in an inline one", v.yOf(block), 22);
        CHECK.same("29 in the flow of the box", v.xOf(block), 2);
        word("37 a line behind the block", v, behind, 0, 0, 30);
        CHECK.same("35 lines ahead and behind", v.lines(0), 2);
    }

    private static void linesBesideFloats() {
        PinnaceView v = wide(100);
        box(v, 0, FLOAT, 1, WIDTH, 30, HEIGHT, 20);
        box(v, 0, FLOAT, 2, WIDTH, 20, HEIGHT, 10);
        int text = text(v, 0, 6, 6, 9);
        word("36 between", v, text, 0, 30, 0);
        word("36 beside the left one", v, text, 1, 30, 16);
        word("36 below", v, text, 2, 0, 32);
        v.declare(0, ALIGN, 2);
        word("36 to the end of the span", v, text, 0, 32, 0);
        word("36 to the end of that span", v, text, 1, 52, 16);
        v.declare(0, ALIGN, 0);
        int block = box(v, 0, PADDING, 3);
        v.move(text, block, 0);
        CHECK.same("31 a block goes behind floats", v.wideOf(block), 100);
        word("36 in a block, beside them", v, text, 0, 30, 3);
        v.declare(block, SCROLL, 1);
        word("36 not in another room", v, text, 0, 3, 3);
    }

    private static void linesGoDown() {
        PinnaceView v = wide(100);
        int left = box(v, 0, FLOAT, 1, WIDTH, 30, HEIGHT, 20);
        box(v, 0, FLOAT, 2, WIDTH, 20, HEIGHT, 10);
        int text = text(v, 0, 9, 8);
        word("37 down to the least bottom", v, text, 0, 0, 20);
        v.declare(0, FONT, 7);
        word("37 down only as far", v, text, 0, 30, 10);
        word("37 at a bottom it is not at it", v, text, 1, 0, 24);
        v.declare(left, WIDTH, 120);
        word("36 no span at all", v, text, 0, 0, 20);
        v.declare(0, FONT, 40);
        word("36 too wide at each y", v, text, 0, 0, 30);
        word("37 below that", v, text, 1, 0, 110);
    }

    private static void floatsSideBySide() {
        PinnaceView v = wide(100);
        int first = box(v, 0, FLOAT, 1, WIDTH, 20, HEIGHT, 10, MARGIN, 1, BORDER, 2, PADDING, 3);
        int second = box(v, 0, FLOAT, 1, WIDTH, 30, HEIGHT, 5);
        int third = box(v, 0, FLOAT, 2, WIDTH, 38, HEIGHT, 7);
        place("29 to 32 a float", v, first, 1, 1, 30, 20);
        place("29 to 32 beside it", v, second, 32, 0, 30, 5);
        place("29 to 32 to the right, below the second", v, third, 62, 0, 38, 7);
        v.declare(third, WIDTH, 39);
        place("29 to 32 below the second", v, third, 61, 5, 39, 7);
        CHECK.same("33 of the room", v.reachOf(0), 22);
        CHECK.same("38 of the room", v.pageHeight(), 22);
        int fourth = box(v, 0, FLOAT, 2, WIDTH, 10, HEIGHT, 1);
        place("30 not above one put ahead of it", v, fourth, 51, 5, 10, 1);
        v.declare(fourth, CLEAR, 2);
        place("30 below the right ones", v, fourth, 90, 12, 10, 1);
        v.declare(fourth, CLEAR, 1);
        place("30 below the left ones", v, fourth, 90, 22, 10, 1);
        v.declare(third, HEIGHT, 70);
        place("30 below the left ones alone", v, fourth, 51, 22, 10, 1);
        v.declare(fourth, CLEAR, 3);
        place("30 below all", v, fourth, 90, 75, 10, 1);
    }

    private static void floatsGoDown() {
        PinnaceView v = wide(100);
        box(v, 0, FLOAT, 1, WIDTH, 60, HEIGHT, 10);
        box(v, 0, FLOAT, 2, WIDTH, 30, HEIGHT, 30);
        int third = box(v, 0, FLOAT, 1, WIDTH, 50, HEIGHT, 10);
        place("29 30 the least y with room", v, third, 0, 10, 50, 10);
        v.declare(third, WIDTH, 80);
        place("29 30 below both", v, third, 0, 30, 80, 10);
        v.declare(third, WIDTH, 130);
        place("29 30 wider than all", v, third, 0, 30, 130, 10);
        v.declare(third, FLOAT, 2);
        place("29 a right one ends at the end", v, third, -30, 30, 130, 10);
        int flat = box(v, 0, FLOAT, 2, WIDTH, 100, HEIGHT, 0);
        place("30 a flat one, below", v, flat, 0, 40, 100, 0);
        int behind = box(v, 0, FLOAT, 1, WIDTH, 100, HEIGHT, 5);
        place("30 a flat one is at no y", v, behind, 0, 40, 100, 5);
    }

    private static void floatsAndCursor() {
        PinnaceView v = wide(100);
        int text = text(v, 0, 2);
        int floating = box(v, 0, FLOAT, 1, WIDTH, 10, HEIGHT, 40);
        int behind = text(v, 0, 2);
        CHECK.same("30 below the line ahead of it", v.yOf(floating), 16);
        word("36 37 the cursor stays", v, behind, 0, 10, 16);
        word("36 37 the line ahead of it", v, text, 0, 0, 0);
        int block = box(v, 0, MARGIN, 5);
        int inBlock = box(v, block, FLOAT, 1, WIDTH, 10, HEIGHT, 10);
        CHECK.same("33 a block without its floats", v.reachOf(block), 0);
        place("29 30 beside one of the same room", v, inBlock, 10, 37, 10, 10);
        CHECK.same("33 the room with them", v.reachOf(0), 56);
        v.declare(block, SCROLL, 1);
        place("29 30 in a room of its own", v, inBlock, 5, 37, 10, 10);
        CHECK.same("33 a room with its floats", v.reachOf(block), 10);
    }

    private static void wishes() {
        PinnaceView v = wide(200);
        int floating = box(v, 0, FLOAT, 1, MARGIN, 1, PADDING, 1);
        CHECK.same("31 nothing", v.wideOf(floating), 2);
        int text = text(v, floating, 2, 3);
        CHECK.same("31 all words in one line", v.wideOf(floating), 50);
        int inline = box(v, floating, DISPLAY, 2, FONT, 4, BORDER, 20);
        text(v, inline, 5);
        CHECK.same("31 of inline ones too", v.wideOf(floating), 78);
        int block = box(v, inline, WIDTH, 70, BORDER, 5);
        CHECK.same("31 a block with its edges", v.wideOf(floating), 82);
        text(v, inline, 5);
        CHECK.same("31 words behind it wait anew", v.wideOf(floating), 82);
        v.declare(block, WIDTH, -1);
        text(v, block, 12, 12);
        CHECK.same("31 the wish of the block", v.wideOf(floating), 112);
        v.addWord(text, 12);
        CHECK.same("31 the words again", v.wideOf(floating), 182);
        v.addWord(text, 3);
        CHECK.same("31 not more than there is", v.wideOf(floating), 198);
        CHECK.same("35 two lines then", v.lines(floating), 3);
        v.declare(floating, WIDTH, 300);
        CHECK.same("31 whatever there is room for", v.wideOf(floating), 302);
        v.declare(floating, WIDTH, -1);
        v.setView(20);
        v.declare(floating, MARGIN, 30);
        CHECK.same("31 not below 0", v.wideOf(floating), 2);
    }

    private static void rooms() {
        PinnaceView v = wide(100);
        int outer = box(v, 0, FLOAT, 1, WIDTH, 50);
        int inner = box(v, outer, FLOAT, 2, WIDTH, 20, HEIGHT, 15);
        int second = box(v, 0, FLOAT, 2, WIDTH, 20, HEIGHT, 10);
        place("29 in the float", v, inner, 30, 0, 20, 15);
        CHECK.same("32 as high as its floats", v.highOf(outer), 15);
        place("29 in the other room", v, second, 80, 0, 20, 10);
        v.declare(outer, HEIGHT, 3);
        int block = box(v, 0, CLEAR, 1);
        CHECK.same("30 only the outer one counts", v.yOf(block), 3);
        CHECK.same("33 reach of the float", v.reachOf(outer), 15);
        CHECK.same("33 reach of the root", v.reachOf(0), 10);
    }

    private static void moved() {
        PinnaceView v = wide(100);
        int block = box(v, 0, HEIGHT, 10, LEFT, 500, TOP, -7);
        int inner = box(v, block, LEFT, -20, TOP, 3, HEIGHT, 4);
        int inline = box(v, inner, DISPLAY, 2, LEFT, 99, TOP, 99);
        int text = text(v, inline, 1);
        int after = box(v, 0, HEIGHT, 5);
        place("29 30 moved", v, block, 500, -7, 100, 10);
        place("29 30 moved in it", v, inner, 480, -4, 100, 4);
        word("36 37 moved with boxes, not by inline ones", v, text, 0, 480, -4);
        place("29 30 nothing else", v, after, 0, 10, 100, 5);
        v.declare(0, TOP, 6);
        v.declare(0, LEFT, 1);
        CHECK.same("30 the root", v.yOf(0), 6);
        CHECK.same("29 with all that is in it", v.xOf(inner), 481);
        CHECK.same("38 not moved", v.pageHeight(), 15);
        v.declare(block, DISPLAY, 2);
        CHECK.same("29 an inline one moves nothing", v.xOf(inner), -19);
        int floating = box(v, 0, FLOAT, 2, WIDTH, 30, HEIGHT, 1, LEFT, -5);
        int wrapped = text(v, 0, 9);
        CHECK.same("29 a float", v.xOf(floating), 66);
        word("37 lines go round where it was put", v, wrapped, 0, 1, 16);
    }

    private static void scrolling() {
        PinnaceView v = wide(100);
        int box = box(v, 0, HEIGHT, 20, SCROLL, 1);
        int inner = box(v, box, HEIGHT, 50);
        v.scroll(box, 12);
        CHECK.same("34 by its offset", v.scrolled(box), 12);
        CHECK.same("30 the content", v.yOf(inner), -12);
        CHECK.same("30 not the box", v.yOf(box), 0);
        v.scroll(box, 5000);
        CHECK.same("34 no more than there is", v.scrolled(box), 30);
        v.declare(box, HEIGHT, 60);
        CHECK.same("34 nothing, if below 0", v.scrolled(box), 0);
        v.declare(box, HEIGHT, -1);
        CHECK.same("34 nothing to scroll", v.scrolled(box), 0);
        v.declare(box, HEIGHT, 0);
        CHECK.same("34 all", v.scrolled(box), 50);
        v.declare(box, SCROLL, 0);
        CHECK.same("34 has not 1 of it", v.scrolled(box), 0);
        CHECK.same("30 is not moved", v.yOf(inner), 0);
        v.declare(box, SCROLL, 1);
        v.declare(box, DISPLAY, 2);
        CHECK.same("34 no box", v.scrolled(box), 0);
        v.declare(0, SCROLL, 1);
        v.declare(0, HEIGHT, 10);
        v.scroll(0, 8);
        CHECK.same("34 the root", v.scrolled(0), 8);
        CHECK.same("30 what is in the root", v.yOf(inner), -8);
        v.declare(box, DISPLAY, 1);
        CHECK.same("34 one in the other", v.yOf(inner), -50);
        CHECK.same("38 as it is laid out", v.pageHeight(), 10);
    }

    private static void cut() {
        PinnaceView v = wide(100);
        int outer = box(v, 0, SCROLL, 1, HEIGHT, 30, WIDTH, 60, BORDER, 4, LEFT, 10);
        int inner = box(v, outer, WIDTH, 90, TOP, -1, DISPLAY, 1);
        int text = text(v, inner, 3, 3, 3, 3, 3, 3);
        CHECK.same("40 the first line is above", v.seen(text), 2);
        v.declare(inner, TOP, 0);
        word("36 37 the third one", v, text, 2, 78, 4);
        CHECK.same("40 two of the first line, two of the second", v.seen(text), 4);
        v.declare(outer, HEIGHT, 16);
        CHECK.same("40 not at the end of the content", v.seen(text), 2);
        v.scroll(outer, 16);
        CHECK.same("40 the others", v.seen(text), 2);
        v.scroll(outer, 1);
        CHECK.same("40 those that begin there", v.seen(text), 2);
        CHECK.same("39 cut on the border", v.hit(12, 10), outer);
        CHECK.same("39 within", v.hit(15, 10), text);
        CHECK.same("39 cut behind the content", v.hit(76, 10), outer);
        CHECK.same("39 cut out of the box", v.hit(80, 10), 0);
        v.declare(outer, DISPLAY, 2);
        CHECK.same("40 no box cuts nothing", v.seen(text), 6);
        v.declare(inner, SCROLL, 1);
        v.declare(inner, HEIGHT, 17);
        CHECK.same("40 cut by the other", v.seen(text), 6);
        v.declare(inner, HEIGHT, 16);
        CHECK.same("40 cut by the other", v.seen(text), 3);
        v.declare(inner, HEIGHT, 0);
        CHECK.same("40 cut all", v.seen(text), 0);
    }

    private static void hits() {
        PinnaceView v = wide(100);
        v.declare(0, MARGIN, 2);
        int first = box(v, 0, MARGIN, 3, BORDER, 1, HEIGHT, 10);
        int text = text(v, first, 2);
        int second = box(v, 0, HEIGHT, 10, TOP, -10, WIDTH, 20);
        CHECK.same("39 in the margin of the root", v.hit(1, 1), -1);
        CHECK.same("39 the root", v.hit(2, 2), 0);
        CHECK.same("39 the border begins", v.hit(5, 5), first);
        CHECK.same("39 the word", v.hit(6, 6), text);
        CHECK.same("39 the word's last place", v.hit(21, 21), text);
        CHECK.same("39 below the word", v.hit(21, 22), 0);
        CHECK.same("39 behind the word", v.hit(22, 6), first);
        CHECK.same("39 the word out of its box", v.hit(20, 21), text);
        CHECK.same("39 the border's last place", v.hit(94, 16), first);
        CHECK.same("39 behind the border", v.hit(95, 16), 0);
        CHECK.same("39 below the border", v.hit(94, 17), 0);
        CHECK.same("39 the one that comes last", v.hit(6, 11), second);
        v.move(second, 0, 0);
        CHECK.same("39 as the tree is now", v.hit(6, 11), 0);
        v.declare(second, TOP, 4);
        CHECK.same("39 now ahead of the other", v.hit(21, 15), first);
        CHECK.same("39 nothing", v.hit(50, 300), -1);
        for (int far : new int[] {Integer.MIN_VALUE, Integer.MAX_VALUE}) {
            CHECK.same("39 far", v.hit(far, 5), -1);
            CHECK.same("39 far", v.hit(5, far), -1);
        }
        v.declare(0, DISPLAY, 2);
        v.declare(second, DISPLAY, 0);
        CHECK.same("39 what is not shown is not there", v.hit(10, 2), 0);
    }

    private static void meanLine() {
        PinnaceView v = wide(100);
        CHECK.same("41 no lines", v.meanLine(), 0.0);
        int text = text(v, 0, 4, 5, 3);
        CHECK.same("41 spaces counted", v.meanLine(), 52.0);
        int box = box(v, 0, SCROLL, 1, HEIGHT, 0, WIDTH, 5);
        text(v, box, 1);
        CHECK.same("41 of all boxes", v.meanLine(), 112.0 / 3);
        v.addWord(text, 12);
        CHECK.same("41 of four lines", v.meanLine(), 208.0 / 4);
        v.declare(box, DISPLAY, 0);
        CHECK.same("41 not of what is not shown", v.meanLine(), 200.0 / 3);
    }

    /** Inline ones in one another are one flow, however deep. */
    private static void deepFlow() {
        PinnaceView v = wide(200);
        int floating = box(v, 0, FLOAT, 1);
        int last = floating;
        for (int i = 0; i < 8; i++) {
            last = box(v, last, DISPLAY, 2);
        }
        int text = text(v, last, 2, 3);
        CHECK.same("31 deep words", v.wideOf(floating), 48);
        CHECK.same("35 deep words", v.lines(floating), 1);
        word("36 37 deep words", v, text, 1, 24, 0);
        int block = box(v, last, WIDTH, 60, HEIGHT, 3);
        CHECK.same("31 a deep block", v.wideOf(floating), 60);
        place("29 to 32 a deep block", v, block, 0, 16, 60, 3);
        CHECK.same("39 a deep block", v.hit(59, 18), block);
    }

    private static void deepRooms() {
        for (int side = 0; side < 2; side++) {
            PinnaceView v = wide(200);
            int last = 0;
            for (int i = 0; i < 9; i++) {
                last = box(v, last, FLOAT, side, PADDING, 1, LEFT, 1);
            }
            int text = text(v, last, 2);
            int deepest = box(v, last, FLOAT, side, WIDTH, 7, HEIGHT, 5, TOP, 2);
            word("36 37 in " + side, v, text, 0, 18, 9);
            place("29 to 32 in " + side, v, deepest, 18, 27, 7, 5);
            CHECK.same("39 in " + side, v.hit(24, 31), deepest);
            CHECK.same("38 with all in it", v.pageHeight(), 39);
        }
    }
}
