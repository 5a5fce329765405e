/** Edges of what is moved, scrolled and cut: Terms 8, promises 34, 39 and 40. */
final class MovedEdges extends Build {
    private final Edges edges;

    MovedEdges(Edges edges) {
        this.edges = edges;
    }

    void check() {
        farthest();
        allThatIsInIt();
        nothingElse();
        offsetAndReach();
        offsetOfOtherSorts();
        cutAtEachSide();
        movedOnlyAsTheBoxIs();
        cutByEachRound();
        notCut();
        seenCorners();
        seenNumbers();
        hitEdges();
        hitTheLast();
        hitNothing();
    }

    private static final String MOVE = "LEFT and TOP move a box, with all that is in it, to the right and down, "
            + "when all is laid out; nothing else is moved by that.";

    private void farthest() {
        edges.terms(8, MOVE);
        for (int far : new int[] {-500, -1, 0, 1, 500}) {
            PinnaceView v = wide(100);
            int block = box(v, 0, MARGIN, 2, HEIGHT, 5, LEFT, far, TOP, -far);
            edges.place("LEFT and TOP, " + far, v, block, 2 + far, 2 - far, 96, 5);
            style(v, 0, LEFT, far, TOP, far);
            edges.place("with the root, " + far, v, block, 2 + 2 * far, 2, 96, 5);
            edges.place("the root, " + far, v, 0, far, far, 100, 9);
        }
    }

    private void allThatIsInIt() {
        edges.terms(8, MOVE);
        PinnaceView v = wide(100);
        int block = box(v, 0, LEFT, 10, TOP, 20);
        int floating = box(v, block, FLOAT, 2, WIDTH, 10, HEIGHT, 5, LEFT, 1, TOP, 2);
        int inFloat = box(v, floating, HEIGHT, 1);
        int inline = box(v, block, DISPLAY, 2, LEFT, 300, TOP, 300);
        int text = text(v, inline, 1);
        int inner = box(v, inline, HEIGHT, 3, LEFT, -4, TOP, -5);
        edges.place("a FLOAT", v, floating, 101, 22, 10, 5);
        edges.place("in the FLOAT", v, inFloat, 101, 22, 10, 1);
        edges.word("a text in an INLINE one", v, text, 0, 10, 20);
        edges.place("a BLOCK in an INLINE one", v, inner, 6, 31, 100, 3);
        style(v, block, DISPLAY, 2);
        edges.word("no box any more", v, text, 0, 0, 0);
        PinnaceView deep = Scenes.DEEP.built();
        for (int node = 0; node <= Scenes.DEEPEST; node++) {
            style(deep, node, LEFT, 500, TOP, -500);
        }
        edges.same("the x, eleven times", deep.xOf(Scenes.DEEPEST), 5500);
        edges.same("the y, eleven times", deep.yOf(Scenes.DEEPEST), -5500);
    }

    private void nothingElse() {
        edges.terms(8, MOVE);
        PinnaceView v = wide(100);
        int block = box(v, 0, HEIGHT, 10, LEFT, 7, TOP, 9);
        int floating = box(v, 0, FLOAT, 1, WIDTH, 10, HEIGHT, 10, LEFT, 50, TOP, 50);
        int text = text(v, 0, 1);
        int last = box(v, 0, CLEAR, 3);
        edges.word("a line beside where the FLOAT was put", v, text, 0, 10, 10);
        edges.same("below where it was put", v.yOf(last), 26);
        edges.same("the page", v.pageHeight(), 26);
        edges.same("the root's REACH", v.reachOf(0), 26);
        edges.place("the FLOAT", v, floating, 50, 60, 10, 10);
        edges.place("the BLOCK", v, block, 7, 9, 100, 10);
    }

    private static final String SCROLLED = "Of a box that has 1 of SCROLL the content is moved up by its OFFSET (0, at first), "
            + "but by no more than REACH less its content's height, and by nothing, if that is below 0;";

    private void offsetAndReach() {
        edges.terms(8, SCROLLED);
        PinnaceView v = wide(100);
        int block = box(v, 0, SCROLL, 1, HEIGHT, 20, PADDING, 3);
        int inner = box(v, block, HEIGHT, 50);
        int text = text(v, block, 1);
        edges.same("0 at first", v.scrolled(block), 0);
        int[][] offsets = {{0, 0}, {1, 1}, {45, 45}, {46, 46}, {47, 46}, {5000, 46}};
        for (int[] offset : offsets) {
            v.scroll(block, offset[0]);
            edges.same("OFFSET " + offset[0], v.scrolled(block), offset[1]);
            edges.same("what is in it", v.yOf(inner), 3 - offset[1]);
            edges.word("a text in it", v, text, 0, 3, 53 - offset[1]);
            edges.place("not itself", v, block, 0, 0, 100, 26);
        }
        int[][] heights = {{0, 66}, {65, 1}, {66, 0}, {67, 0}, {1000, 0}, {-1, 0}};
        for (int[] height : heights) {
            style(v, block, HEIGHT, height[0]);
            edges.same("HEIGHT " + height[0], v.scrolled(block), height[1]);
            edges.same("what is in it", v.yOf(inner), 3 - height[1]);
        }
        style(v, block, HEIGHT, 20, SCROLL, 0);
        edges.same("0 of SCROLL", v.scrolled(block), 0);
        edges.same("what is in it", v.yOf(inner), 3);
        style(v, block, SCROLL, 1);
        edges.same("the OFFSET was kept", v.scrolled(block), 46);
    }

    private void offsetOfOtherSorts() {
        edges.terms(8, SCROLLED);
        PinnaceView v = wide(100);
        int outer = box(v, 0, SCROLL, 1, HEIGHT, 5);
        int inner = box(v, outer, FLOAT, 1, WIDTH, 9, SCROLL, 1, HEIGHT, 10);
        int deep = box(v, inner, HEIGHT, 30, TOP, 2);
        v.scroll(outer, 3);
        v.scroll(inner, 100);
        edges.same("a FLOAT", v.scrolled(inner), 20);
        edges.same("round it, by its FLOATS", v.scrolled(outer), 3);
        edges.same("both, and TOP", v.yOf(deep), -21);
        style(v, inner, FLOAT, 0, DISPLAY, 2);
        edges.same("an INLINE one", v.scrolled(inner), 0);
        edges.same("only the outer one then", v.yOf(deep), -1);
        style(v, inner, DISPLAY, 0);
        edges.same("not SHOWN", v.scrolled(inner), 0);
        edges.same("nothing in the outer one", v.scrolled(outer), 0);
        style(v, 0, SCROLL, 1, HEIGHT, 0, PADDING, 1);
        v.scroll(0, 4);
        edges.same("the root", v.scrolled(0), 4);
        edges.same("what is in it", v.yOf(outer), -3);
        style(v, outer, SCROLL, 9999);
        edges.same("as the root has it", v.scrolled(outer), 0);
        style(v, 0, DISPLAY, 0);
        edges.same("the root in any case", v.scrolled(0), 4);
    }

    private static final String CUT = "and it is CUT: nothing of what is in the box is seen but where its content is, "
            + "by its width and height, moved only as the box is.";

    private void cutAtEachSide() {
        edges.terms(8, CUT);
        PinnaceView v = wide(100);
        int outer = box(v, 0, SCROLL, 1, HEIGHT, 30, WIDTH, 60, PADDING, 2, BORDER, 3);
        int inner = box(v, outer, WIDTH, 300, HEIGHT, 300, LEFT, -100, TOP, -100);
        int[][] places = {{5, 5, 1}, {4, 5, 0}, {5, 4, 0}, {64, 5, 1}, {65, 5, 0}, {5, 34, 1}, {5, 35, 0}, {64, 34, 1},
            {65, 34, 0}, {64, 35, 0}, {0, 0, 0}, {69, 39, 0}};
        for (int[] place : places) {
            edges.same(place[0] + ", " + place[1], v.hit(place[0], place[1]), place[2] == 1 ? inner : outer);
        }
        edges.same("behind its BORDER", v.hit(70, 39), 0);
        edges.same("below its BORDER", v.hit(69, 40), -1);
        style(v, outer, SCROLL, 0);
        edges.same("not CUT", v.hit(0, 0), inner);
        edges.same("not CUT, far out of it", v.hit(204, 204), inner);
        style(v, outer, SCROLL, 1, HEIGHT, 0);
        edges.same("CUT all, no height", v.hit(10, 5), outer);
        style(v, outer, HEIGHT, 1, WIDTH, 0);
        edges.same("CUT all, no width", v.hit(5, 5), outer);
        style(v, outer, WIDTH, 1);
        edges.same("one place", v.hit(5, 5), inner);
        edges.same("no other", v.hit(6, 5), outer);
    }

    private void movedOnlyAsTheBoxIs() {
        edges.terms(8, CUT);
        PinnaceView v = wide(100);
        int outer = box(v, 0, SCROLL, 1, HEIGHT, 30, WIDTH, 60, LEFT, 10, TOP, 20);
        int inner = box(v, outer, HEIGHT, 100);
        for (int offset : new int[] {0, 50, 70}) {
            v.scroll(outer, offset);
            edges.same("its first place, " + offset, v.hit(10, 20), inner);
            edges.same("its last place, " + offset, v.hit(69, 49), inner);
            edges.same("ahead of it, " + offset, v.hit(9, 20), 0);
            edges.same("above it, " + offset, v.hit(10, 19), 0);
            edges.same("behind it, " + offset, v.hit(70, 29), 0);
            edges.same("below it, " + offset, v.hit(10, 50), -1);
        }
        style(v, 0, SCROLL, 1, HEIGHT, 26, LEFT, -10);
        v.scroll(0, 4);
        edges.same("moved as the root scrolls", v.hit(0, 16), inner);
        edges.same("above it", v.hit(0, 15), 0);
        edges.same("CUT by the root", v.hit(0, 26), -1);
        edges.same("its last row there", v.hit(59, 25), inner);
    }

    private void cutByEachRound() {
        edges.terms(8, CUT);
        PinnaceView v = wide(100);
        int outer = box(v, 0, SCROLL, 1, HEIGHT, 30);
        int inner = box(v, outer, SCROLL, 1, HEIGHT, 20, WIDTH, 60);
        int deep = box(v, inner, HEIGHT, 100, WIDTH, 200);
        int spacer = box(v, outer, HEIGHT, 40);
        v.scroll(outer, 5);
        v.scroll(inner, 7);
        edges.same("moved by both", v.yOf(deep), -12);
        edges.same("the inner one's last row", v.hit(0, 14), deep);
        edges.same("below that", v.hit(0, 15), spacer);
        edges.same("behind that", v.hit(60, 14), outer);
        edges.same("its last place", v.hit(59, 14), deep);
        edges.same("CUT by the outer one", v.hit(0, -1), -1);
        style(v, inner, TOP, 10);
        edges.same("above the inner one", v.hit(0, 4), outer);
        edges.same("its first row", v.hit(0, 5), deep);
        edges.same("one that comes later", v.hit(0, 24), spacer);
        style(v, inner, TOP, 30);
        edges.same("the outer one's last row", v.hit(0, 29), spacer);
        v.takeAway(spacer);
        edges.same("nothing is scrolled any more", v.hit(0, 29), outer);
    }

    private void notCut() {
        edges.terms(8, CUT);
        PinnaceView v = wide(100);
        int inline = box(v, 0, DISPLAY, 2, SCROLL, 1, HEIGHT, 0, WIDTH, 0);
        int text = text(v, inline, 2);
        edges.same("an INLINE one cuts nothing", v.seen(text), 1);
        int block = box(v, 0, HEIGHT, 0, WIDTH, 0);
        v.move(text, block, 0);
        edges.same("nor one with 0 of SCROLL", v.seen(text), 1);
        edges.same("it is hit", v.hit(15, 15), text);
        style(v, block, SCROLL, 1, BORDER, 1);
        edges.same("but one with 1", v.seen(text), 0);
        edges.same("not itself", v.hit(1, 1), block);
        int beside = text(v, 0, 3);
        edges.same("nor what is beside it", v.seen(beside), 1);
    }

    private void seenCorners() {
        edges.promise(40, "Returns how many of its words are seen at their left upper corners: not CUT there; 0 if it is not SHOWN.");
        int[][] moves = {{0, 0, 1}, {-1, 0, 0}, {0, -1, 0}, {59, 0, 1}, {60, 0, 0}, {0, 29, 1}, {0, 30, 0}, {59, 29, 1},
            {-500, -500, 0}, {500, 500, 0}};
        for (int[] move : moves) {
            PinnaceView v = wide(100);
            int outer = box(v, 0, SCROLL, 1, HEIGHT, 30, WIDTH, 60, PADDING, 5);
            int inner = box(v, outer, LEFT, move[0], TOP, move[1]);
            int text = text(v, inner, 3);
            edges.same("moved by " + move[0] + ", " + move[1], v.seen(text), move[2]);
            style(v, outer, SCROLL, 0);
            edges.same("not CUT", v.seen(text), 1);
        }
    }

    private void seenNumbers() {
        edges.promise(40, "Returns how many of its words are seen at their left upper corners: not CUT there; 0 if it is not SHOWN.");
        PinnaceView v = wide(20);
        int outer = box(v, 0, SCROLL, 1, HEIGHT, 32);
        int text = v.addText(outer);
        edges.same("no words", v.seen(text), 0);
        for (int i = 0; i < 20; i++) {
            v.addWord(text, 2);
        }
        int[][] offsets = {{0, 2}, {1, 2}, {15, 2}, {16, 2}, {288, 2}, {287, 2}};
        for (int[] offset : offsets) {
            v.scroll(outer, offset[0]);
            edges.same("OFFSET " + offset[0], v.seen(text), offset[1]);
        }
        int[][] heights = {{0, 0}, {1, 1}, {16, 1}, {17, 2}, {319, 20}, {304, 19}, {305, 20}, {1000, 20}};
        v.scroll(outer, 0);
        for (int[] height : heights) {
            style(v, outer, HEIGHT, height[0]);
            edges.same("HEIGHT " + height[0], v.seen(text), height[1]);
        }
        style(v, outer, DISPLAY, 0);
        edges.same("not SHOWN", v.seen(text), 0);
    }

    private static final String HIT = "What is on top at a place: of all boxes (with their BORDERS) and texts (by their words) that are "
            + "there, and are not CUT there by a box that they are in, the one that comes last, if the tree is gone "
            + "through from the root on, each node ahead of its children, and children in order.";

    private void hitEdges() {
        edges.promise(39, HIT);
        PinnaceView v = wide(100);
        style(v, 0, MARGIN, 10, BORDER, 2);
        int block = box(v, 0, MARGIN, 3, BORDER, 1, PADDING, 1, HEIGHT, 10);
        int[][] places = {{10, 10, 0}, {9, 10, -1}, {10, 9, -1}, {89, 10, 0}, {90, 10, -1}, {10, 33, 0}, {10, 34, -1},
            {15, 15, block}, {14, 15, 0}, {15, 14, 0}, {84, 28, block}, {85, 28, 0}, {84, 29, 0}};
        edges.same("the root's height", v.highOf(0), 24);
        for (int[] place : places) {
            edges.same(place[0] + ", " + place[1], v.hit(place[0], place[1]), place[2]);
        }
        int text = text(v, block, 2, 1);
        int[][] words = {{17, 17, text}, {32, 32, text}, {16, 17, block}, {17, 16, block}, {33, 17, block}, {40, 17, block},
            {41, 17, text}, {48, 17, text}, {49, 17, block}, {32, 33, 0}};
        for (int[] place : words) {
            edges.same("words at " + place[0] + ", " + place[1], v.hit(place[0], place[1]), place[2]);
        }
    }

    private void hitTheLast() {
        edges.promise(39, HIT);
        PinnaceView v = wide(100);
        int first = box(v, 0, HEIGHT, 10);
        int second = box(v, 0, HEIGHT, 10, TOP, -10);
        int third = box(v, 0, HEIGHT, 10, TOP, -20);
        edges.same("the last child", v.hit(0, 0), third);
        v.move(third, first, 0);
        style(v, third, TOP, 0);
        edges.same("a child of the first", v.hit(0, 0), second);
        v.move(second, 0, 0);
        style(v, second, TOP, 10);
        edges.same("a child after its parent", v.hit(0, 10), third);
        style(v, third, TOP, -500);
        edges.same("the parent", v.hit(0, 10), first);
        int later = v.addElement(0, 0);
        style(v, later, WIDTH, 0, HEIGHT, 500, TOP, -500);
        edges.same("not one without width", v.hit(0, 10), first);
        style(v, later, BORDER, 1);
        edges.same("but its BORDER", v.hit(0, 10), later);
        edges.same("of two", v.hit(1, 10), later);
        edges.same("and no more", v.hit(2, 10), first);
        style(v, later, BORDER, 0, PADDING, 1);
        edges.same("its PADDING as well", v.hit(1, 10), later);
    }

    private void hitNothing() {
        edges.promise(39, "Returns that node; -1 if there is none.");
        PinnaceView v = Scenes.MIXED.built();
        int[] far = {Integer.MIN_VALUE, Integer.MIN_VALUE + 1, -100000, 100000, Integer.MAX_VALUE - 1, Integer.MAX_VALUE};
        for (int x : far) {
            edges.same("x " + x, v.hit(x, 10), -1);
            edges.same("y " + x, v.hit(10, x), -1);
            for (int y : far) {
                edges.same("both, " + x + ", " + y, v.hit(x, y), -1);
            }
        }
        edges.same("the root alone, without height", new PinnaceView().hit(0, 0), -1);
        PinnaceView w = new PinnaceView();
        style(w, 0, HEIGHT, 1);
        edges.same("the root alone", w.hit(399, 0), 0);
        edges.same("behind it", w.hit(400, 0), -1);
        edges.same("ahead of it", w.hit(-1, 0), -1);
        edges.same("above it", w.hit(0, -1), -1);
        edges.same("below it", w.hit(0, 1), -1);
        int text = w.addText(0);
        edges.same("a text without words", w.hit(0, 0), 0);
        w.addWord(text, 1);
        edges.same("out of the root", w.hit(7, 15), text);
        w.takeAway(text);
        edges.same("gone", w.hit(7, 15), -1);
    }
}
