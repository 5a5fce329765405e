/** Each exception that a promise names: the last that is allowed, the first that is not, and what goes first. */
final class RefusalEdges extends Build {
    private static final String NO_NODE = "Throws `IndexOutOfBoundsException` if there is no such node, or it is GONE";
    private static final String NO_RULE = "Throws `IndexOutOfBoundsException` if there is no such rule";
    private static final String NO_STYLE =
            "Throws `IndexOutOfBoundsException` if there is no such node, it is GONE, or property is not 0 to 13";
    private static final String NO_WORD =
            "Throws `IndexOutOfBoundsException` if there is no such node, it is GONE, it is no text, or there is no such word";
    private static final String NO_VIEW = "Throws `IllegalArgumentException` if width is not 20 to 2000";
    private static final String FULL_OR_DEEP =
            "Throws `IllegalStateException` if 40 nodes were added, or the parent has 10 ancestors";
    private static final int FAR = Integer.MAX_VALUE;
    private static final int FAR_BELOW = Integer.MIN_VALUE;
    private final Edges edges;

    RefusalEdges(Edges edges) {
        this.edges = edges;
    }

    void check() {
        addElement();
        addText();
        addWord();
        takeAway();
        moveWhat();
        moveWhere();
        moveTooDeep();
        setClass();
        setName();
        addRule();
        addPart();
        turn();
        declare();
        setView();
        scroll();
        questionsOfNodes();
        childAt();
        questionsOfRules();
        styles();
        words();
        seen();
        heightIn();
        firstNamedGoesFirst();
    }

    private interface NodeCall {
        void on(PinnaceView v, int node);
    }

    /** The call is refused for all numbers that are none of a node that is there. */
    private void refusesWrongNodes(NodeCall call) {
        for (int node : new int[] {-1, Scenes.ADDED, Scenes.ADDED + 1, 39, 40, FAR, FAR_BELOW}) {
            edges.refuses("never added, " + node, Scenes.MIXED, INDEX, v -> call.on(v, node));
        }
        for (int node : Scenes.ALL_GONE) {
            edges.refuses("gone, " + node, Scenes.MIXED, INDEX, v -> call.on(v, node));
        }
        for (int node : new int[] {1, -1}) {
            edges.refuses("the root alone, " + node, Scenes.NEW, INDEX, v -> call.on(v, node));
        }
        for (int node : new int[] {40, Scenes.GONE_OF_FULL}) {
            edges.refuses("all added, " + node, Scenes.FULL, INDEX, v -> call.on(v, node));
        }
    }

    private void refusesWrongRules(NodeCall call) {
        for (int rule : new int[] {-1, Scenes.RULES, Scenes.RULES + 1, 24, FAR, FAR_BELOW}) {
            edges.refuses("rule " + rule, Scenes.MIXED, INDEX, v -> call.on(v, rule));
        }
        edges.refuses("rule 0 of none", Scenes.NEW, INDEX, v -> call.on(v, 0));
        edges.refuses("rule 24 of all", Scenes.FULL, INDEX, v -> call.on(v, 24));
    }

    private void addElement() {
        edges.promise(2, NO_NODE);
        refusesWrongNodes((v, node) -> v.addElement(node, 0));
        edges.allows("the last one added", Scenes.MIXED, v -> v.addElement(Scenes.LAST_ELEMENT, 0));
        edges.promise(2, "Throws `IllegalArgumentException` if the parent is a text, or tag is not 0 to 7");
        edges.refuses("a text", Scenes.MIXED, ARGUMENT, v -> v.addElement(Scenes.TEXT, 0));
        for (int tag : new int[] {-1, 8, FAR, FAR_BELOW}) {
            edges.refuses("tag " + tag, Scenes.MIXED, ARGUMENT, v -> v.addElement(0, tag));
        }
        for (int tag : new int[] {0, 7}) {
            edges.allows("tag " + tag, Scenes.MIXED, v -> v.addElement(0, tag));
        }
        edges.promise(2, FULL_OR_DEEP);
        edges.refuses("a 41st", Scenes.FULL, STATE, v -> v.addElement(0, 0));
        edges.allows("a 40th", Scenes.ALL_BUT_ONE, v -> v.addElement(0, 0));
        edges.refuses("in one with 10 ancestors", Scenes.DEEP, STATE, v -> v.addElement(Scenes.DEEPEST, 0));
        edges.allows("in one with 9 ancestors", Scenes.DEEP, v -> v.addElement(Scenes.DEEPEST - 1, 0));
    }

    private void addText() {
        edges.promise(3, NO_NODE);
        refusesWrongNodes((v, node) -> v.addText(node));
        edges.promise(3, "Throws `IllegalArgumentException` if the parent is a text");
        edges.refuses("a text", Scenes.MIXED, ARGUMENT, v -> v.addText(Scenes.TEXT));
        edges.refuses("a text without words", Scenes.DEEP, ARGUMENT, v -> v.addText(Scenes.TEXT_IN_PAIR));
        edges.promise(3, FULL_OR_DEEP);
        edges.refuses("a 41st", Scenes.FULL, STATE, v -> v.addText(0));
        edges.allows("a 40th", Scenes.ALL_BUT_ONE, v -> v.addText(0));
        edges.refuses("in one with 10 ancestors", Scenes.DEEP, STATE, v -> v.addText(Scenes.DEEPEST));
        edges.allows("in one with 9 ancestors", Scenes.DEEP, v -> v.addText(Scenes.DEEPEST - 1));
    }

    private void addWord() {
        edges.promise(4, NO_NODE);
        refusesWrongNodes((v, node) -> v.addWord(node, 1));
        edges.promise(4, "Throws `IllegalArgumentException` if it is no text, or letters is not 1 to 12");
        edges.refuses("the root", Scenes.NEW, ARGUMENT, v -> v.addWord(0, 1));
        edges.refuses("an element", Scenes.MIXED, ARGUMENT, v -> v.addWord(Scenes.BLOCK, 1));
        for (int letters : new int[] {0, 13, -1, FAR, FAR_BELOW}) {
            edges.refuses("letters " + letters, Scenes.MIXED, ARGUMENT, v -> v.addWord(Scenes.TEXT, letters));
        }
        for (int letters : new int[] {1, 12}) {
            edges.allows("letters " + letters, Scenes.MIXED, v -> v.addWord(Scenes.TEXT, letters));
        }
        edges.promise(4, "Throws `IllegalStateException` if it has 20 words");
        edges.refuses("a 21st", Scenes.MIXED, STATE, v -> v.addWord(Scenes.FULL_TEXT, 1));
        Scene nineteen = v -> text(v, 0, 1, 2, 3, 4, 5, 6, 7, 8, 9, 10, 11, 12, 1, 2, 3, 4, 5, 6, 7);
        edges.allows("a 20th", nineteen, v -> v.addWord(1, 1));
        edges.allows("another text's first", Scenes.MIXED, v -> v.addWord(Scenes.HIDDEN_TEXT, 1));
    }

    private void takeAway() {
        edges.promise(5, NO_NODE);
        refusesWrongNodes((v, node) -> v.takeAway(node));
        edges.promise(5, "Throws `IllegalArgumentException` if it is the root");
        edges.refuses("alone", Scenes.NEW, ARGUMENT, v -> v.takeAway(0));
        edges.refuses("with all in it", Scenes.MIXED, ARGUMENT, v -> v.takeAway(0));
        edges.allows("its first child", Scenes.MIXED, v -> v.takeAway(1));
    }

    private void moveWhat() {
        edges.promise(6, NO_NODE);
        refusesWrongNodes((v, node) -> v.move(node, 0, 0));
        refusesWrongNodes((v, node) -> v.move(Math.min(1, v.added() - 1), node, 0));
        edges.promise(6, "Throws `IllegalArgumentException` if node is the root, parent is a text, is the node, or is in it, "
                + "there is no such place, or a node would have more than 10 ancestors");
        edges.refuses("the root into an element", Scenes.MIXED, ARGUMENT, v -> v.move(0, 1, 0));
        edges.refuses("the root into itself", Scenes.NEW, ARGUMENT, v -> v.move(0, 0, 0));
        edges.refuses("into a text", Scenes.MIXED, ARGUMENT, v -> v.move(Scenes.SCROLLING, Scenes.TEXT, 0));
        edges.refuses("an element into itself", Scenes.MIXED, ARGUMENT, v -> v.move(Scenes.BLOCK, Scenes.BLOCK, 0));
        edges.refuses("a text into itself", Scenes.MIXED, ARGUMENT, v -> v.move(Scenes.TEXT, Scenes.TEXT, 0));
        edges.refuses("into its child", Scenes.MIXED, ARGUMENT, v -> v.move(Scenes.BLOCK, Scenes.INLINE, 0));
        edges.refuses("into a text in it", Scenes.MIXED, ARGUMENT, v -> v.move(Scenes.BLOCK, Scenes.TEXT, 0));
        edges.refuses("into one far in it", Scenes.DEEP, ARGUMENT, v -> v.move(1, Scenes.DEEPEST, 0));
        edges.allows("into its parent", Scenes.MIXED, v -> v.move(Scenes.TEXT, Scenes.INLINE, 0));
        edges.allows("into the parent's parent", Scenes.MIXED, v -> v.move(Scenes.TEXT, Scenes.BLOCK, 0));
    }

    private void moveWhere() {
        int block = Scenes.BLOCK;
        int others = Scenes.CHILDREN_OF_ROOT - 1;
        for (int place : new int[] {-1, others + 1, others + 2, FAR, FAR_BELOW}) {
            edges.refuses("among its own, place " + place, Scenes.MIXED, ARGUMENT, v -> v.move(block, 0, place));
        }
        edges.allows("among its own, the first place", Scenes.MIXED, v -> v.move(block, 0, 0));
        edges.allows("among its own, the last place", Scenes.MIXED, v -> v.move(block, 0, others));
        for (int place : new int[] {-1, 3, 40, FAR, FAR_BELOW}) {
            edges.refuses("in another, place " + place, Scenes.MIXED, ARGUMENT, v -> v.move(Scenes.SCROLLING, block, place));
        }
        edges.allows("in another, behind the last", Scenes.MIXED, v -> v.move(Scenes.SCROLLING, block, 2));
        edges.refuses("in an empty one, place 1", Scenes.DEEP, ARGUMENT, v -> v.move(Scenes.PAIR, Scenes.SINGLE, 1));
        edges.allows("in an empty one, place 0", Scenes.DEEP, v -> v.move(Scenes.PAIR, Scenes.SINGLE, 0));
    }

    private void moveTooDeep() {
        int deepest = Scenes.DEEPEST;
        edges.refuses("it would have 11", Scenes.DEEP, ARGUMENT, v -> v.move(Scenes.SINGLE, deepest, 0));
        edges.allows("it would have 10", Scenes.DEEP, v -> v.move(Scenes.SINGLE, deepest - 1, 0));
        edges.refuses("a text in it would have 11", Scenes.DEEP, ARGUMENT, v -> v.move(Scenes.PAIR, deepest - 1, 0));
        edges.allows("a text in it would have 10", Scenes.DEEP, v -> v.move(Scenes.PAIR, deepest - 2, 0));
        edges.refuses("the deepest in it would have 11", Scenes.DEEP, ARGUMENT, v -> v.move(1, Scenes.SINGLE, 0));
        edges.allows("the deepest in it would have 10", Scenes.DEEP, v -> v.move(2, Scenes.SINGLE, 0));
        edges.allows("no deeper than it is", Scenes.DEEP, v -> v.move(deepest, deepest - 1, 0));
    }

    private void setClass() {
        edges.promise(7, NO_NODE);
        refusesWrongNodes((v, node) -> v.setClass(node, 0, true));
        edges.promise(7, "Throws `IllegalArgumentException` if it is a text, or itsClass is not 0 to 7");
        edges.refuses("a text", Scenes.MIXED, ARGUMENT, v -> v.setClass(Scenes.TEXT, 0, true));
        for (int itsClass : new int[] {-1, 8, 31, 32, 33, FAR, FAR_BELOW}) {
            edges.refuses("class " + itsClass, Scenes.MIXED, ARGUMENT, v -> v.setClass(Scenes.BLOCK, itsClass, true));
            edges.refuses("class " + itsClass, Scenes.MIXED, ARGUMENT, v -> v.setClass(Scenes.BLOCK, itsClass, false));
        }
        for (int itsClass : new int[] {0, 7}) {
            edges.allows("class " + itsClass, Scenes.NEW, v -> v.setClass(0, itsClass, true));
        }
    }

    private void setName() {
        edges.promise(8, NO_NODE);
        refusesWrongNodes((v, node) -> v.setName(node, 1));
        edges.promise(8, "Throws `IllegalArgumentException` if it is a text, or name is not 0 to 99");
        edges.refuses("a text", Scenes.MIXED, ARGUMENT, v -> v.setName(Scenes.TEXT, 1));
        for (int name : new int[] {-1, 100, FAR, FAR_BELOW}) {
            edges.refuses("name " + name, Scenes.MIXED, ARGUMENT, v -> v.setName(Scenes.BLOCK, name));
        }
        for (int name : new int[] {0, 99}) {
            edges.allows("name " + name, Scenes.NEW, v -> v.setName(0, name));
        }
    }

    private void addRule() {
        edges.promise(9, "Throws `IndexOutOfBoundsException` if property is not 0 to 13");
        for (int property : new int[] {-1, 14, FAR, FAR_BELOW}) {
            edges.refuses("property " + property, Scenes.MIXED, INDEX, v -> v.addRule(property, 0, false));
        }
        edges.promise(9, "Throws `IllegalArgumentException` if value is none of that property, and not 9999");
        for (int property = 0; property < PROPERTIES; property++) {
            int p = property;
            for (int value : new int[] {LEAST[p] - 1, GREATEST[p] + 1, 9998, 10000, -9999, FAR, FAR_BELOW}) {
                edges.refuses("of " + p + " the value " + value, Scenes.MIXED, ARGUMENT, v -> v.addRule(p, value, true));
            }
            for (int value : new int[] {LEAST[p], GREATEST[p], 9999}) {
                edges.allows("of " + p + " the value " + value, Scenes.MIXED, v -> v.addRule(p, value, true));
            }
        }
        edges.promise(9, "Throws `IllegalStateException` if there are 24");
        edges.refuses("a 25th", Scenes.FULL, STATE, v -> v.addRule(0, 1, false));
        edges.allows("a 24th", Scenes.ALL_BUT_ONE, v -> v.addRule(0, 1, false));
    }

    private void addPart() {
        edges.promise(10, NO_RULE);
        refusesWrongRules((v, rule) -> v.addPart(rule, 0, 0, 0, false));
        edges.promise(10, "Throws `IllegalArgumentException` if tag or itsClass is not -1 to 7, or name is not 0 to 99");
        for (int wrong : new int[] {-2, 8, FAR, FAR_BELOW}) {
            edges.refuses("tag " + wrong, Scenes.MIXED, ARGUMENT, v -> v.addPart(0, wrong, 0, 0, false));
            edges.refuses("class " + wrong, Scenes.MIXED, ARGUMENT, v -> v.addPart(0, 0, wrong, 0, false));
        }
        for (int name : new int[] {-1, 100, FAR, FAR_BELOW}) {
            edges.refuses("name " + name, Scenes.MIXED, ARGUMENT, v -> v.addPart(0, 0, 0, name, false));
        }
        edges.allows("the least", Scenes.MIXED, v -> v.addPart(0, -1, -1, 0, false));
        edges.allows("the greatest", Scenes.MIXED, v -> v.addPart(0, 7, 7, 99, true));
        edges.promise(10, "Throws `IllegalStateException` if it has 3 parts");
        edges.refuses("a fourth", Scenes.MIXED, STATE, v -> v.addPart(Scenes.FULL_RULE, -1, -1, 0, false));
        edges.allows("a third", Scenes.MIXED, v -> v.addPart(Scenes.RULE_OF_TWO, -1, -1, 0, false));
    }

    private void turn() {
        edges.promise(11, NO_RULE);
        refusesWrongRules((v, rule) -> v.turn(rule));
        edges.allows("the first", Scenes.FULL, v -> v.turn(0));
        edges.allows("the last", Scenes.FULL, v -> v.turn(23));
    }

    private void declare() {
        edges.promise(12, NO_STYLE);
        refusesWrongNodes((v, node) -> v.declare(node, 8, 1));
        for (int property : new int[] {-1, 14, FAR, FAR_BELOW}) {
            edges.refuses("property " + property, Scenes.MIXED, INDEX, v -> v.declare(Scenes.BLOCK, property, 1));
        }
        edges.promise(12,
                "Throws `IllegalArgumentException` if it is a text, or value is none of that property, and not 9998 or 9999");
        for (int property = 0; property < PROPERTIES; property++) {
            int p = property;
            for (int value : new int[] {LEAST[p] - 1, GREATEST[p] + 1, 9997, 10000, -9999, FAR, FAR_BELOW}) {
                edges.refuses("of " + p + " the value " + value, Scenes.MIXED, ARGUMENT, v -> v.declare(1, p, value));
            }
            for (int value : new int[] {LEAST[p], GREATEST[p], 9998, 9999}) {
                edges.allows("of " + p + " the value " + value, Scenes.MIXED, v -> v.declare(1, p, value));
                edges.refuses("of a text", Scenes.MIXED, ARGUMENT, v -> v.declare(Scenes.TEXT, p, value));
            }
        }
    }

    private void setView() {
        edges.promise(13, NO_VIEW);
        for (int width : new int[] {19, 2001, 0, -20, FAR, FAR_BELOW}) {
            edges.refuses("width " + width, Scenes.MIXED, ARGUMENT, v -> v.setView(width));
        }
        edges.allows("width 20", Scenes.MIXED, v -> v.setView(20));
        edges.allows("width 2000", Scenes.MIXED, v -> v.setView(2000));
    }

    private void scroll() {
        edges.promise(14, NO_NODE);
        refusesWrongNodes((v, node) -> v.scroll(node, 1));
        edges.promise(14, "Throws `IllegalArgumentException` if it is a text, or offset is not 0 to 5000");
        edges.refuses("a text", Scenes.MIXED, ARGUMENT, v -> v.scroll(Scenes.TEXT, 0));
        for (int offset : new int[] {-1, 5001, FAR, FAR_BELOW}) {
            edges.refuses("offset " + offset, Scenes.MIXED, ARGUMENT, v -> v.scroll(Scenes.SCROLLING, offset));
        }
        edges.allows("offset 0", Scenes.MIXED, v -> v.scroll(Scenes.SCROLLING, 0));
        edges.allows("offset 5000", Scenes.MIXED, v -> v.scroll(Scenes.SCROLLING, 5000));
    }

    private void questionsOfNodes() {
        NodeCall[] calls = {(v, n) -> v.isText(n), (v, n) -> v.parent(n), (v, n) -> v.size(n), (v, n) -> v.sortOf(n),
            (v, n) -> v.xOf(n), (v, n) -> v.yOf(n), (v, n) -> v.wideOf(n), (v, n) -> v.highOf(n), (v, n) -> v.reachOf(n),
            (v, n) -> v.scrolled(n), (v, n) -> v.lines(n)};
        int[] promises = {18, 19, 20, 28, 29, 30, 31, 32, 33, 34, 35};
        for (int i = 0; i < calls.length; i++) {
            NodeCall call = calls[i];
            edges.promise(promises[i], NO_NODE);
            refusesWrongNodes(call);
            edges.allows("the last one", Scenes.FULL, v -> call.on(v, 39));
            edges.allows("one that is not shown", Scenes.MIXED, v -> call.on(v, Scenes.HIDDEN_TEXT));
        }
    }

    private void childAt() {
        edges.promise(21, "Throws `IndexOutOfBoundsException` if there is no such node, it is GONE, it is a text, "
                + "or there is no such place");
        refusesWrongNodes((v, node) -> v.childAt(node, 0));
        edges.refuses("a text with words", Scenes.MIXED, INDEX, v -> v.childAt(Scenes.TEXT, 0));
        for (int place : new int[] {-1, 2, 40, FAR, FAR_BELOW}) {
            edges.refuses("place " + place, Scenes.MIXED, INDEX, v -> v.childAt(Scenes.BLOCK, place));
        }
        edges.allows("the last place", Scenes.MIXED, v -> v.childAt(Scenes.BLOCK, 1));
        edges.refuses("no children", Scenes.NEW, INDEX, v -> v.childAt(0, 0));
    }

    private void questionsOfRules() {
        edges.promise(23, NO_RULE);
        refusesWrongRules((v, rule) -> v.weight(rule));
        edges.allows("the last one", Scenes.FULL, v -> v.weight(23));
        edges.promise(24, "Throws `IndexOutOfBoundsException` if there is no such rule or node, or that is GONE");
        refusesWrongRules((v, rule) -> v.matches(rule, 0));
        refusesWrongNodes((v, node) -> v.matches(0, node));
        edges.allows("the last ones", Scenes.FULL, v -> v.matches(23, 39));
        edges.promise(25, NO_RULE);
        refusesWrongRules((v, rule) -> v.matched(rule));
        edges.allows("the last one", Scenes.FULL, v -> v.matched(23));
        edges.promise(43, NO_RULE);
        refusesWrongRules((v, rule) -> v.changedBy(rule));
        edges.allows("the last one", Scenes.FULL, v -> v.changedBy(23));
    }

    private void styles() {
        edges.promise(26, NO_STYLE);
        refusesWrongNodes((v, node) -> v.styleOf(node, 0));
        edges.promise(27, NO_STYLE);
        refusesWrongNodes((v, node) -> v.because(node, 0));
        for (int property : new int[] {-1, 14, FAR, FAR_BELOW}) {
            edges.promise(26, NO_STYLE);
            edges.refuses("property " + property, Scenes.MIXED, INDEX, v -> v.styleOf(0, property));
            edges.promise(27, NO_STYLE);
            edges.refuses("property " + property, Scenes.MIXED, INDEX, v -> v.because(0, property));
        }
        for (int property : new int[] {0, 13}) {
            edges.allows("property " + property, Scenes.MIXED, v -> v.styleOf(Scenes.TEXT, property));
            edges.allows("property " + property, Scenes.MIXED, v -> v.because(Scenes.TEXT, property));
        }
    }

    private void words() {
        edges.promise(36, NO_WORD);
        refusesWrongNodes((v, node) -> v.wordX(node, 0));
        refusesWrongWords((v, text, word) -> v.wordX(text, word));
        edges.promise(37, NO_WORD);
        refusesWrongNodes((v, node) -> v.wordY(node, 0));
        refusesWrongWords((v, text, word) -> v.wordY(text, word));
    }

    private interface WordCall {
        void on(PinnaceView v, int text, int word);
    }

    private void refusesWrongWords(WordCall call) {
        edges.refuses("an element", Scenes.MIXED, INDEX, v -> call.on(v, Scenes.BLOCK, 0));
        edges.refuses("the root alone", Scenes.NEW, INDEX, v -> call.on(v, 0, 0));
        for (int word : new int[] {-1, 3, 19, 20, FAR, FAR_BELOW}) {
            edges.refuses("word " + word + " of 3", Scenes.MIXED, INDEX, v -> call.on(v, Scenes.TEXT, word));
        }
        edges.allows("word 0", Scenes.MIXED, v -> call.on(v, Scenes.TEXT, 0));
        edges.allows("word 2 of 3", Scenes.MIXED, v -> call.on(v, Scenes.TEXT, 2));
        edges.refuses("word 20 of 20", Scenes.MIXED, INDEX, v -> call.on(v, Scenes.FULL_TEXT, 20));
        edges.allows("word 19 of 20", Scenes.MIXED, v -> call.on(v, Scenes.FULL_TEXT, 19));
        edges.refuses("word 0 of none", Scenes.DEEP, INDEX, v -> call.on(v, Scenes.TEXT_IN_PAIR, 0));
        edges.refuses("word 1 of 1 that is not shown", Scenes.MIXED, INDEX, v -> call.on(v, Scenes.HIDDEN_TEXT, 1));
        edges.allows("word 0 that is not shown", Scenes.MIXED, v -> call.on(v, Scenes.HIDDEN_TEXT, 0));
    }

    private void seen() {
        edges.promise(40, NO_NODE);
        refusesWrongNodes((v, node) -> v.seen(node));
        edges.promise(40, "Throws `IllegalArgumentException` if it is no text");
        edges.refuses("the root alone", Scenes.NEW, ARGUMENT, v -> v.seen(0));
        edges.refuses("an element", Scenes.MIXED, ARGUMENT, v -> v.seen(Scenes.INLINE));
        edges.allows("a text without words", Scenes.DEEP, v -> v.seen(Scenes.TEXT_IN_PAIR));
    }

    private void heightIn() {
        edges.promise(42, NO_VIEW);
        for (int width : new int[] {19, 2001, 0, -20, FAR, FAR_BELOW}) {
            edges.refuses("width " + width, Scenes.MIXED, ARGUMENT, v -> v.heightIn(width));
        }
        edges.allows("width 20", Scenes.MIXED, v -> v.heightIn(20));
        edges.allows("width 2000", Scenes.MIXED, v -> v.heightIn(2000));
    }

    private void firstNamedGoesFirst() {
        int gone = Scenes.GONE_OF_FULL;
        int text = Scenes.TEXT_OF_FULL;
        edges.terms(Document.EXCEPTIONS, "If several exceptions apply, the one that is named first is thrown.");
        edges.refuses("addElement, gone, tag 8, full", Scenes.FULL, INDEX, v -> v.addElement(gone, 8));
        edges.refuses("addElement, gone, full", Scenes.FULL, INDEX, v -> v.addElement(gone, 0));
        edges.refuses("addElement, tag 8, full", Scenes.FULL, ARGUMENT, v -> v.addElement(0, 8));
        edges.refuses("addElement, a text, full", Scenes.FULL, ARGUMENT, v -> v.addElement(text, 0));
        edges.refuses("addElement, gone, tag -1", Scenes.MIXED, INDEX, v -> v.addElement(Scenes.GONE, -1));
        edges.refuses("addElement, tag -1, deep", Scenes.DEEP, ARGUMENT, v -> v.addElement(Scenes.DEEPEST, -1));
        edges.refuses("addElement, a text, deep", Scenes.DEEP, ARGUMENT, v -> v.addElement(Scenes.DEEP_TEXT, 0));
        edges.refuses("addText, gone, full", Scenes.FULL, INDEX, v -> v.addText(gone));
        edges.refuses("addText, 40, full", Scenes.FULL, INDEX, v -> v.addText(40));
        edges.refuses("addText, a text, full", Scenes.FULL, ARGUMENT, v -> v.addText(text));
        edges.refuses("addText, a text, deep", Scenes.DEEP, ARGUMENT, v -> v.addText(Scenes.DEEP_TEXT));
        edges.refuses("addWord, gone, 0 letters", Scenes.MIXED, INDEX, v -> v.addWord(Scenes.GONE, 0));
        edges.refuses("addWord, no node, 13 letters", Scenes.MIXED, INDEX, v -> v.addWord(-1, 13));
        edges.refuses("addWord, 13 letters, 20 words", Scenes.MIXED, ARGUMENT, v -> v.addWord(Scenes.FULL_TEXT, 13));
        edges.refuses("addWord, 0 letters, 20 words", Scenes.MIXED, ARGUMENT, v -> v.addWord(Scenes.FULL_TEXT, 0));
        Scene fullGone = v -> {
            Scenes.MIXED.on(v);
            v.takeAway(Scenes.FULL_TEXT);
        };
        edges.refuses("addWord, gone, 20 words", fullGone, INDEX, v -> v.addWord(Scenes.FULL_TEXT, 1));
        edges.refuses("move, gone, no place", Scenes.MIXED, INDEX, v -> v.move(Scenes.GONE, 0, -1));
        edges.refuses("move, gone, into a text", Scenes.MIXED, INDEX, v -> v.move(Scenes.GONE, Scenes.TEXT, 0));
        edges.refuses("move, the root, into one gone", Scenes.MIXED, INDEX, v -> v.move(0, Scenes.GONE, 0));
        edges.refuses("move, no place, in none", Scenes.MIXED, INDEX, v -> v.move(1, Scenes.ADDED, -1));
        edges.refuses("move, gone into itself", Scenes.MIXED, INDEX, v -> v.move(Scenes.GONE, Scenes.GONE, 0));
        edges.refuses("setClass, gone, class 8", Scenes.MIXED, INDEX, v -> v.setClass(Scenes.GONE, 8, true));
        edges.refuses("setName, gone, name 100", Scenes.MIXED, INDEX, v -> v.setName(Scenes.GONE, 100));
        edges.refuses("addRule, property 14, full", Scenes.FULL, INDEX, v -> v.addRule(14, 0, false));
        edges.refuses("addRule, property -1, no value", Scenes.MIXED, INDEX, v -> v.addRule(-1, 5555, false));
        edges.refuses("addRule, no value, full", Scenes.FULL, ARGUMENT, v -> v.addRule(0, 3, false));
        edges.refuses("addRule, property 14, no value, full", Scenes.FULL, INDEX, v -> v.addRule(14, 5555, true));
        edges.refuses("addPart, no rule, tag 8", Scenes.FULL, INDEX, v -> v.addPart(24, 8, 0, 0, false));
        edges.refuses("addPart, tag 8, 3 parts", Scenes.FULL, ARGUMENT, v -> v.addPart(0, 8, 0, 0, false));
        edges.refuses("addPart, class 8, 3 parts", Scenes.FULL, ARGUMENT, v -> v.addPart(0, 0, 8, 0, false));
        edges.refuses("addPart, name 100, 3 parts", Scenes.FULL, ARGUMENT, v -> v.addPart(0, 0, 0, 100, false));
        edges.refuses("declare, gone, no value", Scenes.MIXED, INDEX, v -> v.declare(Scenes.GONE, 0, 5));
        edges.refuses("declare, property 14 of a text", Scenes.MIXED, INDEX, v -> v.declare(Scenes.TEXT, 14, 0));
        edges.refuses("declare, property 14, no value", Scenes.MIXED, INDEX, v -> v.declare(1, 14, 5555));
        edges.refuses("scroll, gone, offset 5001", Scenes.MIXED, INDEX, v -> v.scroll(Scenes.GONE, 5001));
        edges.terms(Document.EXCEPTIONS, "A method that throws an exception changes nothing.");
        Scene asked = v -> {
            Scenes.MIXED.on(v);
            v.digest();
            v.heightIn(100);
        };
        edges.refuses("when much was asked before", asked, ARGUMENT, v -> v.declare(1, 0, 3));
        edges.refuses("when another width was asked before", asked, ARGUMENT, v -> v.setView(19));
    }
}
