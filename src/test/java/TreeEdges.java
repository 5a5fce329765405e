/** Edges of the tree: Terms 1, promises 1 to 8 and 15 to 21. */
final class TreeEdges extends Build {
    private final Edges edges;

    TreeEdges(Edges edges) {
        this.edges = edges;
    }

    void check() {
        newObject();
        fortyNodes();
        numbersOfNodes();
        tenAncestors();
        tenAncestorsOfMoved();
        gone();
        tagsNamesAndClasses();
        words();
        lastChild();
        takeAway();
        placesAmongOwn();
        placesInAnother();
        counts();
        isThere();
        asked();
        asOfNow();
        asOfNowInTheTree();
    }

    private void newObject() {
        PinnaceView v = new PinnaceView();
        edges.promise(1, "Creates a tree with the root alone, without rules, and a view that is 400 wide.");
        edges.same("added", v.added(), 1);
        edges.same("nodes", v.nodes(), 1);
        edges.same("the root is there", v.isThere(0), true);
        edges.same("no other is", v.isThere(1), false);
        edges.same("no children", v.size(0), 0);
        edges.same("no rules", v.rules(), 0);
        edges.same("the root's width", v.wideOf(0), 400);
        edges.same("no height", v.pageHeight(), 0);
        edges.same("nothing to hit", v.hit(0, 0), -1);
        edges.same("no lines", v.lines(0), 0);
        edges.same("no mean", v.meanLine(), 0.0);
        edges.same("the view", v.setView(400), 400);
    }

    private void fortyNodes() {
        edges.terms(1, "At most 40 NODES are added, the root counted, numbered from 0");
        for (boolean endsWithText : new boolean[] {false, true}) {
            PinnaceView v = new PinnaceView();
            for (int number = 1; number < 40; number++) {
                boolean isText = number % 2 == 0 ^ endsWithText;
                edges.same("the number", isText ? v.addText(0) : v.addElement(0, 1), number);
                edges.same("so many then", v.added(), number + 1);
            }
            edges.same("the 40th's kind", v.isText(39), endsWithText);
            edges.same("the 40th's parent", v.parent(39), 0);
            edges.same("the root's children", v.size(0), 39);
            edges.same("the last child", v.childAt(0, 38), 39);
        }
    }

    private void numbersOfNodes() {
        PinnaceView v = Scenes.FULL.built();
        edges.promise(15, "Returns how many nodes were added, the root counted.");
        edges.same("all", v.added(), 40);
        edges.promise(16, "Returns how many nodes there are that are not GONE.");
        edges.same("all but one", v.nodes(), 39);
        int taken = 1;
        for (int node = 39; node > 0; node--) {
            taken += v.isThere(node) ? v.takeAway(node) : 0;
        }
        edges.same("the root alone", v.nodes(), 1);
        edges.same("all others gone", taken, 40 - 1);
        edges.promise(15, "Returns how many nodes were added, the root counted.");
        edges.same("gone ones too", v.added(), 40);
    }

    private void tenAncestors() {
        edges.terms(1, "none has more than 10 ancestors");
        PinnaceView v = new PinnaceView();
        int parent = 0;
        for (int ancestors = 1; ancestors <= 10; ancestors++) {
            int text = v.addText(parent);
            edges.same("a text with " + ancestors, v.parent(text), parent);
            parent = v.addElement(parent, 0);
        }
        int deepest = parent;
        edges.same("an eleventh element", Checker.thrownBy(() -> v.addElement(deepest, 0)), STATE);
        edges.same("an eleventh text", Checker.thrownBy(() -> v.addText(deepest)), STATE);
        edges.same("nothing was added", v.size(deepest), 0);
        edges.same("its sort", v.sortOf(deepest), 3);
        edges.same("its width", v.wideOf(deepest), 400);
    }

    private void tenAncestorsOfMoved() {
        PinnaceView v = Scenes.DEEP.built();
        edges.terms(1, "none has more than 10 ancestors");
        edges.same("moved to 10", v.move(Scenes.SINGLE, 9, 0), 3);
        edges.same("where it is", childrenOf(v, 9), "12 10 11 ");
        edges.same("two in it, moved to 10", v.move(Scenes.PAIR, 8, 1), 2);
        edges.same("none in it any more", Checker.thrownBy(() -> v.addElement(Scenes.TEXT_IN_PAIR - 1, 0)), STATE);
        edges.same("moved up again", v.move(Scenes.PAIR, 7, 0), 2);
        edges.same("then there is room", v.addElement(Scenes.TEXT_IN_PAIR - 1, 0), 16);
        edges.same("and no more of it", Checker.thrownBy(() -> v.move(Scenes.PAIR, 8, 0)), ARGUMENT);
    }

    private void gone() {
        edges.terms(1, "A node that is taken away is GONE, with all that is in it; its number is not used again.");
        PinnaceView v = new PinnaceView();
        int outer = v.addElement(0, 1);
        int inner = v.addElement(outer, 1);
        int text = text(v, inner, 5);
        edges.same("three", v.takeAway(outer), 3);
        for (int node : new int[] {outer, inner, text}) {
            edges.same("gone, " + node, v.isThere(node), false);
        }
        edges.same("a new element's number", v.addElement(0, 1), 4);
        edges.same("a new text's number", v.addText(4), 5);
        edges.same("nothing of the old ones", v.pageHeight(), 0);
        edges.same("its children", childrenOf(v, 0), "4 ");
    }

    private void tagsNamesAndClasses() {
        edges.terms(1, "An element has a tag, 0 to 7 (the root: 0), a name, 0 to 99 (0, at first, is none; "
                + "several can have the same), and classes, some of 0 to 7 (none, at first).");
        for (int tag = 0; tag <= 7; tag++) {
            PinnaceView v = new PinnaceView();
            v.addElement(0, tag);
            for (int asked = 0; asked <= 7; asked++) {
                v.addRule(COLOR, 1, false);
                v.addPart(asked, asked, -1, 0, false);
                edges.same("the root's tag is " + asked, v.matches(asked, 0), asked == 0);
                edges.same("tag " + tag + " is " + asked, v.matches(asked, 1), asked == tag);
            }
        }
        PinnaceView v = new PinnaceView();
        v.addElement(0, 7);
        edges.same("no name at first", v.setName(1, 99), 0);
        edges.same("nor of the root", v.setName(0, 99), 0);
        edges.same("both have it", v.setName(0, 1) + v.setName(1, 0), 198);
        edges.same("a name is taken away", v.setName(1, 0), 0);
        edges.same("the other stays", v.setName(0, 1), 1);
        classes(v);
    }

    private void classes(PinnaceView v) {
        for (int itsClass = 0; itsClass <= 7; itsClass++) {
            edges.same("not at first, " + itsClass, v.setClass(1, itsClass, true), false);
            edges.same("nor the root, " + itsClass, v.setClass(0, itsClass, false), false);
        }
        for (int itsClass = 0; itsClass <= 7; itsClass++) {
            edges.same("all at once, " + itsClass, v.setClass(1, itsClass, false), true);
            edges.same("none of the root's, " + itsClass, v.setClass(0, itsClass, false), false);
        }
        edges.promise(7, "Returns whether it had it.");
        edges.same("taken twice", v.setClass(1, 7, false), false);
        edges.same("given", v.setClass(1, 7, true), false);
        edges.same("given twice", v.setClass(1, 7, true), true);
        edges.same("taken", v.setClass(1, 7, false), true);
        edges.promise(8, "Returns the name before.");
        edges.same("99", v.setName(1, 99), 0);
        edges.same("the same again", v.setName(1, 99), 99);
        edges.same("none", v.setName(1, 0), 99);
    }

    private void words() {
        edges.terms(1, "A text has no children, but words, at most 20, each of 1 to 12 letters.");
        PinnaceView v = wide(2000);
        int text = v.addText(0);
        int other = v.addText(0);
        edges.same("none yet", v.size(text), 0);
        edges.promise(4, "Returns how many words there are then.");
        for (int words = 1; words <= 20; words++) {
            edges.same("so many then", v.addWord(text, words % 2 == 0 ? 12 : 1), words);
        }
        edges.same("size", v.size(text), 20);
        edges.same("the last one is behind the others", v.wordX(text, 19), 10 * (1 + 12 + 2) * 8 - 12 * 8 - 8);
        edges.same("another text's first", v.addWord(other, 12), 1);
    }

    private void lastChild() {
        PinnaceView v = new PinnaceView();
        edges.promise(2, "Returns its number.");
        edges.same("the first of none", v.addElement(0, 7), 1);
        v.addText(0);
        edges.same("behind a text", v.addElement(0, 0), 3);
        edges.same("in the first", v.addElement(1, 0), 4);
        edges.promise(2, "Adds an element, as the last child of another one.");
        edges.same("the root's children", childrenOf(v, 0), "1 2 3 ");
        edges.same("its children", childrenOf(v, 1), "4 ");
        edges.promise(3, "Returns its number.");
        edges.same("the text's number", v.addText(0), 5);
        edges.promise(3, "Adds a text without words, as the last child of an element.");
        edges.same("behind the elements", childrenOf(v, 0), "1 2 3 5 ");
        edges.same("without words", v.size(5), 0);
        edges.same("a text", v.isText(5), true);
    }

    private void takeAway() {
        edges.promise(5, "Returns how many nodes are GONE by that.");
        PinnaceView v = Scenes.DEEP.built();
        edges.same("a text alone", v.takeAway(Scenes.TEXT_IN_PAIR), 1);
        edges.same("two then", v.takeAway(Scenes.PAIR), 2);
        edges.same("ten levels, and a text", v.takeAway(1), 11);
        edges.same("what is left", childrenOf(v, 0), Scenes.SINGLE + " ");
        for (int node = 1; node <= Scenes.DEEP_TEXT; node++) {
            edges.same("gone, however deep it was, " + node, v.isThere(node), false);
        }
        PinnaceView all = new PinnaceView();
        int parent = all.addElement(0, 0);
        for (int i = 0; i < 38; i++) {
            all.addText(parent);
        }
        edges.same("all but the root", all.takeAway(parent), 39);
        edges.same("the root alone", all.nodes(), 1);
    }

    private void placesAmongOwn() {
        edges.promise(6, "(Places are counted without it.)");
        PinnaceView v = new PinnaceView();
        for (int i = 0; i < 4; i++) {
            v.addElement(0, 0);
        }
        edges.same("the first to the end", v.move(1, 0, 3), 4);
        edges.same("order", childrenOf(v, 0), "2 3 4 1 ");
        edges.same("the last to the beginning", v.move(1, 0, 0), 4);
        edges.same("order", childrenOf(v, 0), "1 2 3 4 ");
        edges.same("to where it is", v.move(2, 0, 1), 4);
        edges.same("order", childrenOf(v, 0), "1 2 3 4 ");
        edges.same("one place on", v.move(2, 0, 2), 4);
        edges.same("order", childrenOf(v, 0), "1 3 2 4 ");
        edges.same("one place back", v.move(2, 0, 1), 4);
        edges.same("order", childrenOf(v, 0), "1 2 3 4 ");
        v.addElement(1, 0);
        edges.same("an only child", v.move(5, 1, 0), 1);
        edges.same("stays", childrenOf(v, 1), "5 ");
    }

    private void placesInAnother() {
        PinnaceView v = new PinnaceView();
        int from = v.addElement(0, 0);
        int to = v.addElement(0, 0);
        int moved = v.addElement(from, 0);
        int text = text(v, moved, 2);
        edges.promise(6, "Returns how many children the element has then.");
        edges.same("into an empty one", v.move(moved, to, 0), 1);
        edges.promise(6, "Moves a node, with all that is in it, to a place among the children of an element; "
                + "those behind it there come one place later.");
        edges.same("out of the other", v.size(from), 0);
        edges.same("what is in it", v.parent(text), moved);
        edges.same("ahead of all", v.move(from, to, 0), 2);
        edges.same("order", childrenOf(v, to), from + " " + moved + " ");
        edges.same("behind all", v.move(text, to, 2), 3);
        edges.same("order", childrenOf(v, to), from + " " + moved + " " + text + " ");
        edges.same("out of its parent", v.size(moved), 0);
        edges.same("between", v.move(v.addElement(0, 0), to, 1), 4);
        edges.same("order", childrenOf(v, to), from + " 5 " + moved + " " + text + " ");
        edges.same("nodes", v.nodes(), 6);
        edges.same("up to the root", v.move(text, 0, 0), 2);
        edges.same("order", childrenOf(v, 0), text + " " + to + " ");
    }

    private void counts() {
        edges.promise(20, "Returns how many children it has; of a text, how many words.");
        PinnaceView v = Scenes.MIXED.built();
        edges.same("of the root, none of those gone", v.size(0), Scenes.CHILDREN_OF_ROOT);
        edges.same("of an element", v.size(Scenes.BLOCK), 2);
        edges.same("of a full text", v.size(Scenes.FULL_TEXT), 20);
        edges.same("of a text", v.size(Scenes.TEXT), 3);
        edges.same("of a text without words", Scenes.DEEP.built().size(Scenes.TEXT_IN_PAIR), 0);
        edges.same("of an element without children", Scenes.DEEP.built().size(Scenes.SINGLE), 0);
        edges.promise(21, "Returns its child there.");
        edges.same("the first", v.childAt(0, 0), Scenes.BLOCK);
        edges.same("the last", v.childAt(0, 2), Scenes.LAST_ELEMENT);
        edges.promise(19, "Returns its parent; -1 of the root.");
        edges.same("of the root", v.parent(0), -1);
        edges.same("of its child", v.parent(Scenes.BLOCK), 0);
        edges.same("of a text", v.parent(Scenes.TEXT), Scenes.INLINE);
        edges.promise(22, "Returns how many rules there are.");
        edges.same("none", new PinnaceView().rules(), 0);
        edges.same("some", v.rules(), Scenes.RULES);
        edges.same("all", Scenes.FULL.built().rules(), 24);
    }

    private void isThere() {
        edges.promise(17, "Returns whether there is a node with it that is not GONE.");
        PinnaceView v = Scenes.FULL.built();
        for (int number : new int[] {-1, 40, 41, Scenes.GONE_OF_FULL, Integer.MIN_VALUE, Integer.MAX_VALUE}) {
            edges.same("not " + number, v.isThere(number), false);
        }
        for (int number : new int[] {0, 1, 37, 39}) {
            edges.same("yes, " + number, v.isThere(number), true);
        }
    }

    private void asked() {
        edges.promise(18, "Returns whether it is a text.");
        PinnaceView v = Scenes.MIXED.built();
        edges.same("the root", v.isText(0), false);
        edges.same("an element that is not shown", v.isText(Scenes.LAST_ELEMENT), false);
        edges.same("a text", v.isText(Scenes.TEXT), true);
        edges.same("a text that is not shown", v.isText(Scenes.HIDDEN_TEXT), true);
    }

    /** Each call that changes styles or the view, after everything was asked. */
    private void asOfNow() {
        PinnaceView v = wide(100);
        int block = v.addElement(0, 1);
        int text = text(v, block, 3);
        v.addRule(FONT, 10, false);
        edges.terms(Document.AHEAD, "Whatever is asked is as of now: there is no call that lays out.");
        edges.same("at first", v.pageHeight(), 16);
        v.addPart(0, -1, 2, 5, false);
        v.setClass(block, 2, true);
        edges.same("a class alone", v.pageHeight(), 16);
        v.setName(block, 5);
        edges.same("setName", v.pageHeight(), 20);
        v.setClass(block, 2, false);
        edges.same("setClass", v.pageHeight(), 16);
        v.setClass(block, 2, true);
        edges.same("setClass again", v.pageHeight(), 20);
        v.turn(0);
        edges.same("turn", v.pageHeight(), 16);
        v.addRule(FONT, 20, false);
        edges.same("a rule without parts", v.pageHeight(), 16);
        v.addPart(1, 1, -1, 0, false);
        edges.same("addPart", v.pageHeight(), 40);
        edges.same("addPart, a word", v.wordX(text, 0), 0);
    }

    private void asOfNowInTheTree() {
        PinnaceView v = wide(100);
        int block = v.addElement(0, 1);
        int text = text(v, block, 3);
        edges.terms(Document.AHEAD, "Whatever is asked is as of now: there is no call that lays out.");
        edges.same("at first", v.pageHeight(), 16);
        v.addWord(text, 12);
        edges.same("addWord", v.pageHeight(), 32);
        v.setView(200);
        edges.same("setView", v.pageHeight(), 16);
        edges.same("heightIn", v.heightIn(100), 32);
        edges.same("the view is as before", v.wordX(text, 1), 32);
        v.declare(block, SCROLL, 1);
        v.declare(block, HEIGHT, 6);
        edges.same("declare", v.highOf(block), 6);
        v.scroll(block, 4);
        edges.same("scroll", v.wordY(text, 0), -4);
        int other = v.addElement(0, 0);
        edges.same("addElement", v.yOf(other), 6);
        v.move(other, 0, 0);
        edges.same("move", v.yOf(other), 0);
        int second = v.addText(other);
        edges.same("addText", v.sortOf(second), 1);
        v.addWord(second, 1);
        edges.same("below the line", v.yOf(block), 16);
        v.takeAway(other);
        edges.same("takeAway", v.yOf(block), 0);
        edges.same("hit", v.hit(0, 0), text);
    }
}
