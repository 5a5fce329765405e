import java.util.ArrayList;
import java.util.Arrays;

/** A small browser core: a tree with styles that cascade, laid out in boxes, floats and lines. */
public final class PinnaceView {
    private static final int MOST_NODES = 40;
    private static final int MOST_ANCESTORS = 10;
    private static final int MOST_WORDS = 20;
    private static final int MOST_LETTERS = 12;
    private static final int MOST_RULES = 24;
    private static final int MOST_PARTS = 3;
    private static final int GREATEST_TAG = 7;
    private static final int GREATEST_CLASS = 7;
    private static final int GREATEST_NAME = 99;
    private static final int GREATEST_OFFSET = 5000;
    private static final int LEAST_VIEW = 20;
    private static final int GREATEST_VIEW = 2000;
    private static final int FIRST_VIEW = 400;

    private static final int DISPLAY = 0;
    private static final int WIDTH = 1;
    private static final int HEIGHT = 2;
    private static final int MARGIN = 3;
    private static final int PADDING = 4;
    private static final int BORDER = 5;
    private static final int FLOAT = 6;
    private static final int CLEAR = 7;
    private static final int COLOR = 8;
    private static final int FONT = 9;
    private static final int ALIGN = 10;
    private static final int SCROLL = 11;
    private static final int LEFT = 12;
    private static final int TOP = 13;
    private static final int PROPERTIES = 14;
    private static final int[] LEAST_VALUES = {0, -1, -1, 0, 0, 0, 0, 0, 0, 1, 0, 0, -500, -500};
    private static final int[] GREATEST_VALUES = {2, 1000, 1000, 100, 100, 20, 2, 3, 255, 40, 2, 1, 500, 500};
    private static final int[] FIRST_VALUES = {1, -1, -1, 0, 0, 0, 0, 0, 0, 8, 0, 0, 0, 0};
    private static final int AUTO = -1;
    private static final int UNDECLARED = 9998;
    private static final int AS_PARENT = 9999;

    private static final int BY_ITSELF = -1;
    private static final int FROM_PARENT = -2;
    private static final int BY_NOTHING = -3;
    private static final int NO_RULE = -1;

    private static final int NOT_SHOWN = 0;
    private static final int SHOWN_TEXT = 1;
    private static final int INLINE = 2;
    private static final int BLOCK = 3;
    private static final int FLOATING = 4;
    private static final int ALL_SIDES = 3;
    private static final int NOWHERE = -9999;

    private final Tree tree = Tree.withRoot();
    private final ArrayList<Rule> ruleList = new ArrayList<Rule>();
    private final Page page = new Page();
    private final Styles styles = page.styles;
    private final Styles stylesIfTurned = new Styles();
    private int view = FIRST_VIEW;

    /** Makes a tree with the root alone, without rules, and a view that is 400 wide. */
    public PinnaceView() {
    }

    // ---- the tree

    public int addElement(int parent, int tag)
            throws IndexOutOfBoundsException, IllegalArgumentException, IllegalStateException {
        Node place = nodeAt(parent);
        if (place.isText || tag < 0 || tag > GREATEST_TAG) {
            throw new IllegalArgumentException("the parent is a text, or there is no such tag");
        }
        if (!tree.hasRoomIn(place)) {
            throw new IllegalStateException("no more nodes, or too deep");
        }
        forgetWhatWasWorkedOut();
        return tree.append(place, false, tag);
    }

    public int addText(int parent)
            throws IndexOutOfBoundsException, IllegalArgumentException, IllegalStateException {
        Node place = nodeAt(parent);
        if (place.isText) {
            throw new IllegalArgumentException("the parent is a text");
        }
        if (!tree.hasRoomIn(place)) {
            throw new IllegalStateException("no more nodes, or too deep");
        }
        forgetWhatWasWorkedOut();
        return tree.append(place, true, 0);
    }

    public int addWord(int text, int letters)
            throws IndexOutOfBoundsException, IllegalArgumentException, IllegalStateException {
        Node node = nodeAt(text);
        if (!node.isText || letters < 1 || letters > MOST_LETTERS) {
            throw new IllegalArgumentException("no text, or not so many letters");
        }
        if (node.words >= MOST_WORDS || node.words >= node.letters.length) {
            throw new IllegalStateException("no more words");
        }
        forgetWhatWasWorkedOut();
        node.letters[node.words] = letters;
        node.words++;
        return node.words;
    }

    public int takeAway(int node) throws IndexOutOfBoundsException, IllegalArgumentException {
        Node taken = nodeAt(node);
        if (taken.parent == null) {
            throw new IllegalArgumentException("the root stays");
        }
        forgetWhatWasWorkedOut();
        return tree.remove(taken);
    }

    public int move(int node, int parent, int place) throws IndexOutOfBoundsException, IllegalArgumentException {
        Node moved = nodeAt(node);
        Node target = nodeAt(parent);
        if (!tree.canMove(moved, target, place)) {
            throw new IllegalArgumentException("it cannot be moved there");
        }
        forgetWhatWasWorkedOut();
        tree.putInto(moved, target, place);
        return target.children.size();
    }

    public boolean setClass(int element, int itsClass, boolean has)
            throws IndexOutOfBoundsException, IllegalArgumentException {
        Node node = nodeAt(element);
        if (node.isText || itsClass < 0 || itsClass > GREATEST_CLASS) {
            throw new IllegalArgumentException("a text, or no such class");
        }
        forgetWhatWasWorkedOut();
        boolean had = node.hasClass(itsClass);
        int bit = 1 << itsClass;
        node.classes = has ? node.classes | bit : node.classes & ~bit;
        return had;
    }

    public int setName(int element, int name) throws IndexOutOfBoundsException, IllegalArgumentException {
        Node node = nodeAt(element);
        if (node.isText || name < 0 || name > GREATEST_NAME) {
            throw new IllegalArgumentException("a text, or no such name");
        }
        forgetWhatWasWorkedOut();
        int before = node.name;
        node.name = name;
        return before;
    }

    // ---- styles

    public int addRule(int property, int value, boolean isStrong)
            throws IndexOutOfBoundsException, IllegalArgumentException, IllegalStateException {
        if (!isProperty(property)) {
            throw new IndexOutOfBoundsException("no such property");
        }
        if (!isValueOf(property, value) && value != AS_PARENT) {
            throw new IllegalArgumentException("no value of that property");
        }
        if (ruleList.size() >= MOST_RULES) {
            throw new IllegalStateException("no more rules");
        }
        forgetWhatWasWorkedOut();
        ruleList.add(new Rule(property, value, isStrong));
        return ruleList.size() - 1;
    }

    public int addPart(int rule, int tag, int itsClass, int name, boolean isClose)
            throws IndexOutOfBoundsException, IllegalArgumentException, IllegalStateException {
        Rule changed = ruleAt(rule);
        boolean isTag = tag >= -1 && tag <= GREATEST_TAG;
        boolean isClass = itsClass >= -1 && itsClass <= GREATEST_CLASS;
        if (!isTag || !isClass || name < 0 || name > GREATEST_NAME) {
            throw new IllegalArgumentException("no such tag, class or name");
        }
        if (changed.parts >= MOST_PARTS) {
            throw new IllegalStateException("no more parts");
        }
        forgetWhatWasWorkedOut();
        changed.takePart(tag, itsClass, name, isClose);
        return changed.parts;
    }

    public boolean turn(int rule) throws IndexOutOfBoundsException {
        Rule turned = ruleAt(rule);
        forgetWhatWasWorkedOut();
        turned.isOn = !turned.isOn;
        return turned.isOn;
    }

    public int declare(int element, int property, int value)
            throws IndexOutOfBoundsException, IllegalArgumentException {
        Node node = nodeAt(element);
        if (!isProperty(property)) {
            throw new IndexOutOfBoundsException("no such property");
        }
        boolean isFree = value == UNDECLARED || value == AS_PARENT;
        if (node.isText || !isFree && !isValueOf(property, value)) {
            throw new IllegalArgumentException("a text, or no value of that property");
        }
        forgetWhatWasWorkedOut();
        int before = node.declaredOf(property);
        node.setDeclared(property, value);
        return before;
    }

    public int setView(int width) throws IllegalArgumentException {
        if (!isViewWidth(width)) {
            throw new IllegalArgumentException("no width of a view");
        }
        int before = view;
        view = width;
        return before;
    }

    public int scroll(int element, int offset) throws IndexOutOfBoundsException, IllegalArgumentException {
        Node node = nodeAt(element);
        if (node.isText || offset < 0 || offset > GREATEST_OFFSET) {
            throw new IllegalArgumentException("a text, or no such offset");
        }
        forgetWhatWasWorkedOut();
        int before = node.offset;
        node.offset = offset;
        return before;
    }

    // ---- the tree, asked

    public int added() {
        return tree.nodes.size();
    }

    public int nodes() {
        return tree.order.size();
    }

    public boolean isThere(int node) {
        return tree.holds(node);
    }

    public boolean isText(int node) throws IndexOutOfBoundsException {
        return nodeAt(node).isText;
    }

    public int parent(int node) throws IndexOutOfBoundsException {
        Node above = nodeAt(node).parent;
        return above == null ? -1 : above.number;
    }

    public int size(int node) throws IndexOutOfBoundsException {
        Node asked = nodeAt(node);
        return asked.isText ? asked.words : asked.children.size();
    }

    public int childAt(int element, int place) throws IndexOutOfBoundsException {
        Node node = nodeAt(element);
        if (node.isText || place < 0 || place >= node.children.size()) {
            throw new IndexOutOfBoundsException("a text, or no such place");
        }
        return node.children.get(place).number;
    }

    public int rules() {
        return ruleList.size();
    }

    public int weight(int rule) throws IndexOutOfBoundsException {
        return ruleAt(rule).weight;
    }

    public boolean matches(int rule, int node) throws IndexOutOfBoundsException {
        Rule asked = ruleAt(rule);
        return asked.selects(nodeAt(node));
    }

    public int matched(int rule) throws IndexOutOfBoundsException {
        Rule asked = ruleAt(rule);
        int count = 0;
        for (int i = 0; i < tree.order.size(); i++) {
            if (asked.selects(tree.order.get(i))) {
                count++;
            }
        }
        return count;
    }

    public int styleOf(int node, int property) throws IndexOutOfBoundsException {
        Node asked = nodeAt(node);
        if (!isProperty(property)) {
            throw new IndexOutOfBoundsException("no such property");
        }
        freshenStyles();
        return styles.of(asked, property);
    }

    public int because(int node, int property) throws IndexOutOfBoundsException {
        Node asked = nodeAt(node);
        if (!isProperty(property)) {
            throw new IndexOutOfBoundsException("no such property");
        }
        freshenStyles();
        return styles.reasonOf(asked, property);
    }

    // ---- boxes and lines

    public int sortOf(int node) throws IndexOutOfBoundsException {
        return laidOut(node, view).sort;
    }

    public int xOf(int node) throws IndexOutOfBoundsException {
        return laidOut(node, view).borderX();
    }

    public int yOf(int node) throws IndexOutOfBoundsException {
        return laidOut(node, view).borderY();
    }

    public int wideOf(int node) throws IndexOutOfBoundsException {
        return laidOut(node, view).borderWide();
    }

    public int highOf(int node) throws IndexOutOfBoundsException {
        return laidOut(node, view).borderHigh();
    }

    public int reachOf(int node) throws IndexOutOfBoundsException {
        return laidOut(node, view).reachOrNone();
    }

    public int scrolled(int node) throws IndexOutOfBoundsException {
        return laidOut(node, view).movedUp;
    }

    public int lines(int node) throws IndexOutOfBoundsException {
        return laidOut(node, view).linesOrNone();
    }

    public int wordX(int text, int word) throws IndexOutOfBoundsException {
        if (!nodeAt(text).hasWord(word)) {
            throw new IndexOutOfBoundsException("no text, or no such word");
        }
        return laidOut(text, view).wordLeft(word);
    }

    public int wordY(int text, int word) throws IndexOutOfBoundsException {
        if (!nodeAt(text).hasWord(word)) {
            throw new IndexOutOfBoundsException("no text, or no such word");
        }
        return laidOut(text, view).wordTop(word);
    }

    public int pageHeight() {
        return laidOut(0, view).highWithEdges();
    }

    public int hit(int x, int y) {
        laidOut(0, view);
        int found = -1;
        for (int i = 0; i < tree.order.size(); i++) {
            Node node = tree.order.get(i);
            if (page.isAt(node, x, y) && !page.isCutAt(node, x, y)) {
                found = node.number;
            }
        }
        return found;
    }

    public int seen(int text) throws IndexOutOfBoundsException, IllegalArgumentException {
        Node asked = nodeAt(text);
        if (!asked.isText) {
            throw new IllegalArgumentException("no text");
        }
        laidOut(text, view);
        return page.wordsSeen(asked);
    }

    public double meanLine() {
        laidOut(0, view);
        return page.lineCount == 0 ? 0.0 : (double) page.widthOfLines / (double) page.lineCount;
    }

    // ---- what would be (nothing is changed)

    public int heightIn(int width) throws IllegalArgumentException {
        if (!isViewWidth(width)) {
            throw new IllegalArgumentException("no width of a view");
        }
        return laidOut(0, width).highWithEdges();
    }

    public int changedBy(int rule) throws IndexOutOfBoundsException {
        ruleAt(rule);
        freshenStyles();
        stylesIfTurned.workOut(tree.order, ruleList, rule);
        int count = 0;
        for (int i = 0; i < tree.order.size(); i++) {
            if (styles.differFor(tree.order.get(i), stylesIfTurned)) {
                count++;
            }
        }
        return count;
    }

    public long digest() {
        long sum = 58030;
        sum = sum * 31 + added();
        sum = sum * 31 + nodes();
        sum = sum * 31 + rules();
        sum = sum * 31 + laidOut(0, view).highWithEdges();
        for (int number = 0; number < added(); number++) {
            if (isThere(number)) {
                Node node = nodeAt(number);
                sum = digestOfWords(digestOfStyles(digestOfBox(digestOfPlace(sum, node), node), node), node);
            }
        }
        for (int rule = 0; rule < rules(); rule++) {
            sum = sum * 31 + weight(rule);
            sum = sum * 31 + matched(rule);
        }
        return sum;
    }

    private long digestOfPlace(long before, Node node) {
        long sum = before;
        sum = sum * 31 + node.number;
        sum = sum * 31 + (node.isText ? 1 : 0);
        sum = sum * 31 + parent(node.number);
        sum = sum * 31 + size(node.number);
        return sum;
    }

    private static long digestOfBox(long before, Node node) {
        long sum = before;
        sum = sum * 31 + node.layout.sort;
        sum = sum * 31 + node.layout.borderX();
        sum = sum * 31 + node.layout.borderY();
        sum = sum * 31 + node.layout.borderWide();
        sum = sum * 31 + node.layout.borderHigh();
        sum = sum * 31 + node.layout.reachOrNone();
        sum = sum * 31 + node.layout.movedUp;
        sum = sum * 31 + node.layout.linesOrNone();
        return sum;
    }

    private long digestOfStyles(long before, Node node) {
        long sum = before;
        for (int property = 0; property < PROPERTIES; property++) {
            sum = sum * 31 + styles.of(node, property);
        }
        return sum;
    }

    private long digestOfWords(long before, Node node) {
        if (!node.isText) {
            return before;
        }
        long sum = before;
        for (int word = 0; word < node.words; word++) {
            sum = sum * 31 + node.layout.wordLeft(word);
            sum = sum * 31 + node.layout.wordTop(word);
        }
        return sum * 31 + page.wordsSeen(node);
    }

    private Node nodeAt(int number) {
        if (!tree.holds(number)) {
            throw new IndexOutOfBoundsException("no such node, or it is gone");
        }
        return tree.nodes.get(number);
    }

    private Rule ruleAt(int number) {
        if (number < 0 || number >= ruleList.size()) {
            throw new IndexOutOfBoundsException("no such rule");
        }
        return ruleList.get(number);
    }

    private void forgetWhatWasWorkedOut() {
        styles.areFresh = false;
        page.laidWidth = 0;
    }

    private void freshenStyles() {
        if (!styles.areFresh) {
            styles.workOut(tree.order, ruleList, NO_RULE);
        }
    }

    private Layout laidOut(int number, int width) {
        Node node = nodeAt(number);
        freshenStyles();
        if (page.laidWidth != width) {
            page.layOut(tree, width);
        }
        return node.layout;
    }

    private static boolean isProperty(int number) {
        return number >= 0 && number < PROPERTIES;
    }

    private static boolean isValueOf(int property, int value) {
        return isProperty(property) && value >= LEAST_VALUES[property] && value <= GREATEST_VALUES[property];
    }

    private static boolean isInherited(int property) {
        return property == COLOR || property == FONT || property == ALIGN;
    }

    private static boolean isViewWidth(int width) {
        return width >= LEAST_VIEW && width <= GREATEST_VIEW;
    }

    /** An element or a text. */
    private static final class Node {
        final int number;
        final boolean isText;
        final int tag;
        final ArrayList<Node> children = new ArrayList<Node>();
        /** How many letters each word of a text has. */
        final int[] letters;
        /** What an element declares itself, by property. */
        final int[] declared;
        final Layout layout;
        final Flow flow = new Flow();
        Node parent = null;
        int words = 0;
        int name = 0;
        /** A bit for each class. */
        int classes = 0;
        int offset = 0;
        boolean isGone = false;

        Node(int number, boolean isText, int tag) {
            this.number = number;
            this.isText = isText;
            this.tag = tag;
            letters = new int[isText ? MOST_WORDS : 0];
            declared = new int[isText ? 0 : PROPERTIES];
            for (int property = 0; property < declared.length; property++) {
                declared[property] = UNDECLARED;
            }
            layout = new Layout(isText ? MOST_WORDS : 0);
        }

        boolean hasClass(int itsClass) {
            return itsClass >= 0 && itsClass <= GREATEST_CLASS && (classes >> itsClass & 1) == 1;
        }

        boolean hasWord(int word) {
            return isText && word >= 0 && word < words && word < letters.length;
        }

        int lettersOf(int word) {
            return hasWord(word) ? letters[word] : 0;
        }

        int declaredOf(int property) {
            return property >= 0 && property < declared.length ? declared[property] : UNDECLARED;
        }

        void setDeclared(int property, int value) {
            if (property >= 0 && property < declared.length) {
                declared[property] = value;
            }
        }

        int ancestors() {
            int count = 0;
            for (Node above = parent; above != null; above = above.parent) {
                count++;
            }
            return count;
        }

        boolean isOrIsIn(Node other) {
            for (Node above = this; above != null; above = above.parent) {
                if (above == other) {
                    return true;
                }
            }
            return false;
        }

        int placeAmongSiblings() {
            if (parent != null) {
                for (int i = 0; i < parent.children.size(); i++) {
                    if (parent.children.get(i) == this) {
                        return i;
                    }
                }
            }
            return -1;
        }
    }

    /** All nodes that were added, and those that are not gone in the order of the tree. */
    private static final class Tree {
        final ArrayList<Node> nodes = new ArrayList<Node>();
        /** Each node ahead of its children, children in order. */
        final ArrayList<Node> order = new ArrayList<Node>();
        final Node root = new Node(0, false, 0);

        static Tree withRoot() {
            Tree tree = new Tree();
            tree.nodes.add(tree.root);
            tree.order.add(tree.root);
            return tree;
        }

        boolean holds(int number) {
            return number >= 0 && number < nodes.size() && !nodes.get(number).isGone;
        }

        boolean hasRoomIn(Node parent) {
            return nodes.size() < MOST_NODES && parent.ancestors() < MOST_ANCESTORS;
        }

        int append(Node parent, boolean isText, int tag) {
            Node node = new Node(nodes.size(), isText, tag);
            nodes.add(node);
            node.parent = parent;
            parent.children.add(node);
            listAnew();
            return node.number;
        }

        int remove(Node node) {
            int before = order.size();
            detach(node);
            markGone(node, 0);
            listAnew();
            return before - order.size();
        }

        boolean canMove(Node node, Node parent, int place) {
            if (node.parent == null || parent.isText || parent.isOrIsIn(node)) {
                return false;
            }
            int places = parent.children.size() - (node.parent == parent ? 1 : 0);
            if (place < 0 || place > places) {
                return false;
            }
            return parent.ancestors() + 1 + levelsBelow(node, 0) <= MOST_ANCESTORS;
        }

        void putInto(Node node, Node parent, int place) {
            detach(node);
            if (place >= 0 && place <= parent.children.size()) {
                parent.children.add(place, node);
                node.parent = parent;
            }
            listAnew();
        }

        private void detach(Node node) {
            int place = node.placeAmongSiblings();
            if (node.parent != null && place >= 0 && place < node.parent.children.size()) {
                node.parent.children.remove(place);
                node.parent = null;
            }
        }

        private void listAnew() {
            order.clear();
            listFrom(root, order, 0);
        }

        private static void listFrom(Node node, ArrayList<Node> list, int depth) {
            if (depth > MOST_ANCESTORS) {
                return;
            }
            list.add(node);
            for (int i = 0; i < node.children.size(); i++) {
                listFrom(node.children.get(i), list, depth + 1);
            }
        }

        private static void markGone(Node node, int depth) {
            if (depth > MOST_ANCESTORS) {
                return;
            }
            node.isGone = true;
            for (int i = 0; i < node.children.size(); i++) {
                markGone(node.children.get(i), depth + 1);
            }
        }

        private static int levelsBelow(Node node, int depth) {
            if (depth > MOST_ANCESTORS) {
                return 0;
            }
            int most = 0;
            for (int i = 0; i < node.children.size(); i++) {
                most = Math.max(most, 1 + levelsBelow(node.children.get(i), depth + 1));
            }
            return most;
        }
    }

    /** A rule with its selector. */
    private static final class Rule {
        final int property;
        final int value;
        final boolean isStrong;
        final int[] tags = new int[MOST_PARTS];
        /** A bit for the class that a part asks for. */
        final int[] classBits = new int[MOST_PARTS];
        final int[] names = new int[MOST_PARTS];
        final boolean[] areClose = new boolean[MOST_PARTS];
        int parts = 0;
        int weight = 0;
        boolean isOn = true;

        Rule(int property, int value, boolean isStrong) {
            this.property = property;
            this.value = value;
            this.isStrong = isStrong;
        }

        void takePart(int tag, int itsClass, int name, boolean isClose) {
            if (parts < 0 || parts >= MOST_PARTS) {
                return;
            }
            tags[parts] = tag;
            classBits[parts] = itsClass >= 0 && itsClass <= GREATEST_CLASS ? 1 << itsClass : 0;
            names[parts] = name;
            areClose[parts] = isClose;
            parts++;
            weight += (name != 0 ? 100 : 0) + (itsClass != -1 ? 10 : 0) + (tag != -1 ? 1 : 0);
        }

        boolean selects(Node node) {
            return !node.isText && parts > 0 && fitsUpTo(this, parts - 1, node);
        }

        /** Whether the part fits the element, and those ahead of it some choice of its ancestors. */
        private static boolean fitsUpTo(Rule rule, int part, Node element) {
            if (!rule.fits(part, element)) {
                return false;
            }
            if (part == 0) {
                return true;
            }
            for (Node above = element.parent; above != null; above = above.parent) {
                if (fitsUpTo(rule, part - 1, above)) {
                    return true;
                }
                if (rule.areClose[part]) {
                    return false;
                }
            }
            return false;
        }

        private boolean fits(int part, Node element) {
            if (part < 0 || part >= parts || part >= MOST_PARTS) {
                return false;
            }
            boolean isOfTag = tags[part] == -1 || tags[part] == element.tag;
            boolean isOfClass = (element.classes & classBits[part]) == classBits[part];
            boolean isOfName = names[part] == 0 || names[part] == element.name;
            return isOfTag && isOfClass && isOfName;
        }
    }

    /** What each node has of each property, and why. */
    private static final class Styles {
        private final int[][] values = new int[MOST_NODES][PROPERTIES];
        private final int[][] reasons = new int[MOST_NODES][PROPERTIES];
        /** Whether nothing was changed since they were worked out. */
        boolean areFresh = false;

        int of(Node node, int property) {
            int row = node.number;
            boolean isKept = row >= 0 && row < MOST_NODES && property >= 0 && property < PROPERTIES;
            return isKept ? values[row][property] : 0;
        }

        int reasonOf(Node node, int property) {
            return isKept(node, property) ? reasons[node.number][property] : BY_NOTHING;
        }

        boolean differFor(Node node, Styles other) {
            for (int property = 0; property < PROPERTIES; property++) {
                if (of(node, property) != other.of(node, property)) {
                    return true;
                }
            }
            return false;
        }

        /** The order has parents ahead of their children, as these look at what their parents have. */
        void workOut(ArrayList<Node> order, ArrayList<Rule> rules, int turned) {
            for (int i = 0; i < order.size(); i++) {
                Node node = order.get(i);
                if (isKept(node, 0)) {
                    findRules(node, rules, turned);
                    for (int property = 0; property < PROPERTIES; property++) {
                        settle(node, property, rules);
                    }
                }
            }
            areFresh = true;
        }

        private static boolean isKept(Node node, int property) {
            return node.number >= 0 && node.number < MOST_NODES && isProperty(property);
        }

        /** Puts down as the reasons, for now, the rules that come first. */
        private void findRules(Node node, ArrayList<Rule> rules, int turned) {
            int[] first = reasons[node.number];
            Arrays.fill(first, NO_RULE);
            for (int i = 0; i < rules.size(); i++) {
                Rule rule = rules.get(i);
                boolean counts = rule.isOn != (i == turned) && isProperty(rule.property) && rule.selects(node);
                if (counts && comesAheadOf(rule, first[rule.property], rules)) {
                    first[rule.property] = i;
                }
            }
        }

        private static boolean comesAheadOf(Rule rule, int other, ArrayList<Rule> rules) {
            if (other < 0 || other >= rules.size()) {
                return true;
            }
            Rule earlier = rules.get(other);
            if (rule.isStrong != earlier.isStrong) {
                return rule.isStrong;
            }
            return rule.weight >= earlier.weight;
        }

        private void settle(Node node, int property, ArrayList<Rule> rules) {
            int reason = reasons[node.number][property];
            int value = UNDECLARED;
            boolean isStrong = false;
            if (reason >= 0 && reason < rules.size()) {
                value = rules.get(reason).value;
                isStrong = rules.get(reason).isStrong;
            }
            int own = node.declaredOf(property);
            if (own != UNDECLARED && !isStrong) {
                value = own;
                reason = BY_ITSELF;
            }
            if (value == UNDECLARED) {
                boolean isFromParent = isInherited(property) && node.parent != null;
                value = isFromParent ? AS_PARENT : FIRST_VALUES[property];
                reason = isFromParent ? FROM_PARENT : BY_NOTHING;
            }
            if (value == AS_PARENT) {
                value = node.parent == null ? FIRST_VALUES[property] : of(node.parent, property);
            }
            values[node.number][property] = value;
            reasons[node.number][property] = reason;
        }
    }

    /** Where a node is: a box by its content, a text by its words; laid out, and then moved. */
    private static final class Layout {
        int sort = NOT_SHOWN;
        /** The box in whose flow it is, if it is shown. */
        Node home = null;
        /** Border and padding of one side. */
        int inset = 0;
        /** Margin, border and padding of one side. */
        int edge = 0;
        boolean isScrolling = false;
        int left = 0;
        int top = 0;
        int wide = 0;
        int high = 0;
        int reach = 0;
        int lineCount = 0;
        int shiftX = 0;
        int shiftY = 0;
        /** By how much what is in the box is moved up, as it scrolls. */
        int movedUp = 0;
        private final int[] wordLefts;
        private final int[] wordTops;

        Layout(int words) {
            wordLefts = new int[Math.max(0, words)];
            wordTops = new int[Math.max(0, words)];
        }

        boolean isBox() {
            return sort == BLOCK || sort == FLOATING;
        }

        int borderX() {
            return isBox() ? left - inset + shiftX : NOWHERE;
        }

        int borderY() {
            return isBox() ? top - inset + shiftY : NOWHERE;
        }

        int borderWide() {
            return isBox() ? wide + 2 * inset : -1;
        }

        int borderHigh() {
            return isBox() ? high + 2 * inset : -1;
        }

        int reachOrNone() {
            return isBox() ? reach : -1;
        }

        int linesOrNone() {
            return isBox() ? lineCount : 0;
        }

        int highWithEdges() {
            return high + 2 * edge;
        }

        boolean hasInBorder(int x, int y) {
            return isBox() && isWithin(x, borderX(), borderWide()) && isWithin(y, borderY(), borderHigh());
        }

        boolean cutsOffAt(int x, int y) {
            boolean isInContent = isWithin(x, left + shiftX, wide) && isWithin(y, top + shiftY, high);
            return isScrolling && !isInContent;
        }

        void setWord(int word, int x, int y) {
            if (word >= 0 && word < wordLefts.length && word < wordTops.length) {
                wordLefts[word] = x;
                wordTops[word] = y;
            }
        }

        int wordLeft(int word) {
            boolean isPlaced = sort == SHOWN_TEXT && word >= 0 && word < wordLefts.length;
            return isPlaced ? wordLefts[word] + shiftX : NOWHERE;
        }

        int wordTop(int word) {
            boolean isPlaced = sort == SHOWN_TEXT && word >= 0 && word < wordTops.length;
            return isPlaced ? wordTops[word] + shiftY : NOWHERE;
        }

        static boolean isWithin(int at, int begin, int length) {
            return at >= begin && at < begin + length;
        }
    }

    /** How far a box is while it is laid out. */
    private static final class Flow {
        /** The number of the room that the floats in its content belong to. */
        int room = 0;
        int cursor = 0;
        int gap = 0;
        int wish = 0;
        /** For the wish, the width of the words that wait together, the space behind them counted. */
        int waiting = 0;
    }

    /** The floats of all rooms, in the order in which they were put, with their margins. */
    private static final class Floats {
        private final int[] rooms = new int[MOST_NODES];
        private final int[] sides = new int[MOST_NODES];
        private final int[] lefts = new int[MOST_NODES];
        private final int[] rights = new int[MOST_NODES];
        private final int[] tops = new int[MOST_NODES];
        private final int[] bottoms = new int[MOST_NODES];
        private int count = 0;
        /** What the last look found: the span at a y, and the least bottom of the floats there. */
        int spanBegin = 0;
        int spanEnd = 0;
        private int nextBottom = 0;

        void clear() {
            count = 0;
        }

        void put(int room, int side, int left, int top, int wide, int high) {
            if (count < 0 || count >= MOST_NODES) {
                return;
            }
            rooms[count] = room;
            sides[count] = side;
            lefts[count] = left;
            rights[count] = left + wide;
            tops[count] = top;
            bottoms[count] = top + high;
            count++;
        }

        /** The lowest bottom of those of these sides (1 left, 2 right, 3 both), but not above y. */
        int belowBottoms(int room, int whichSides, int y) {
            int lowest = y;
            for (int i = 0; i < count && i < MOST_NODES; i++) {
                if (rooms[i] == room && (sides[i] & whichSides) != 0) {
                    lowest = Math.max(lowest, bottoms[i]);
                }
            }
            return lowest;
        }

        /** The lowest top, but not above y. */
        int belowTops(int room, int y) {
            int lowest = y;
            for (int i = 0; i < count && i < MOST_NODES; i++) {
                if (rooms[i] == room) {
                    lowest = Math.max(lowest, tops[i]);
                }
            }
            return lowest;
        }

        /** The first y, from one on, where the span of the box is so wide, or no float is; looks there. */
        int findRoom(int wide, Node box, int from) {
            int y = from;
            look(box, y);
            for (int i = 0; i < MOST_NODES && wide > spanEnd - spanBegin && nextBottom > y; i++) {
                y = nextBottom;
                look(box, y);
            }
            return y;
        }

        private void look(Node box, int y) {
            spanBegin = box.layout.left;
            spanEnd = box.layout.left + box.layout.wide;
            nextBottom = y;
            for (int i = 0; i < count && i < MOST_NODES; i++) {
                if (rooms[i] == box.flow.room && y >= tops[i] && y < bottoms[i]) {
                    nextBottom = nextBottom == y ? bottoms[i] : Math.min(nextBottom, bottoms[i]);
                    if (sides[i] == 1) {
                        spanBegin = Math.max(spanBegin, rights[i]);
                    } else {
                        spanEnd = Math.min(spanEnd, lefts[i]);
                    }
                }
            }
        }
    }

    /** The words that wait to be put into lines. */
    private static final class Waiting {
        private static final int MOST = MOST_NODES * MOST_WORDS;
        private final Node[] texts = new Node[MOST];
        private final int[] words = new int[MOST];
        private final int[] widths = new int[MOST];
        private final int[] fonts = new int[MOST];
        int count = 0;
        /** The width and the greatest font of the last line that was taken. */
        int lineWide = 0;
        int lineFont = 0;

        void clear() {
            count = 0;
        }

        void add(Node text, int font) {
            for (int word = 0; word < text.words && count >= 0 && count < MOST; word++) {
                texts[count] = text;
                words[count] = word;
                widths[count] = text.lettersOf(word) * font;
                fonts[count] = font;
                count++;
            }
        }

        int widthOf(int i) {
            return i >= 0 && i < MOST ? widths[i] : 0;
        }

        /** Takes words into a line, the first one in any case; tells which word comes behind it. */
        int takeLine(int first, int room) {
            lineWide = 0;
            lineFont = 0;
            int space = 0;
            for (int i = Math.max(0, first); i < count && i < MOST; i++) {
                if (i > first && lineWide + space + widths[i] > room) {
                    return i;
                }
                lineWide += space + widths[i];
                lineFont = Math.max(lineFont, fonts[i]);
                space = fonts[i];
            }
            return count;
        }

        void setLine(int first, int behind, int left, int top) {
            int x = left;
            for (int i = Math.max(0, first); i < behind && i < count && i < MOST; i++) {
                if (texts[i] != null) {
                    texts[i].layout.setWord(words[i], x, top);
                }
                x += widths[i] + fonts[i];
            }
        }
    }

    /** Lays out the whole tree, and tells what is where. */
    private static final class Page {
        final Styles styles = new Styles();
        private final Floats floats = new Floats();
        private final Waiting waiting = new Waiting();
        /** The width of the view that it was last laid out for; 0 if something was changed since then. */
        int laidWidth = 0;
        int lineCount = 0;
        int widthOfLines = 0;

        void layOut(Tree tree, int viewWidth) {
            floats.clear();
            waiting.clear();
            lineCount = 0;
            widthOfLines = 0;
            prepare(tree.order);
            findWishes(tree.order);
            Layout root = tree.root.layout;
            root.left = root.edge;
            root.top = root.edge;
            root.wide = widthOr(tree.root, viewWidth - 2 * root.edge);
            tree.root.flow.room = tree.root.number;
            fill(tree.root, tree.order, 0);
            shift(tree.order);
            laidWidth = viewWidth;
        }

        boolean isAt(Node node, int x, int y) {
            if (node.layout.hasInBorder(x, y)) {
                return true;
            }
            int font = styles.of(node, FONT);
            for (int word = 0; word < node.words && node.layout.sort == SHOWN_TEXT; word++) {
                boolean isBeside = !Layout.isWithin(x, node.layout.wordLeft(word), node.lettersOf(word) * font);
                if (!isBeside && Layout.isWithin(y, node.layout.wordTop(word), 2 * font)) {
                    return true;
                }
            }
            return false;
        }

        boolean isCutAt(Node node, int x, int y) {
            for (Node above = node.parent; above != null; above = above.parent) {
                if (above.layout.cutsOffAt(x, y)) {
                    return true;
                }
            }
            return false;
        }

        int wordsSeen(Node text) {
            int count = 0;
            for (int word = 0; word < text.words && text.layout.sort == SHOWN_TEXT; word++) {
                if (!isCutAt(text, text.layout.wordLeft(word), text.layout.wordTop(word))) {
                    count++;
                }
            }
            return count;
        }

        /** The order has parents ahead of their children, as the sort of these hangs on theirs. */
        private void prepare(ArrayList<Node> order) {
            for (int i = 0; i < order.size(); i++) {
                Node node = order.get(i);
                Layout own = node.layout;
                own.sort = sortFor(node);
                own.home = homeFor(node);
                own.inset = styles.of(node, BORDER) + styles.of(node, PADDING);
                own.edge = own.inset + styles.of(node, MARGIN);
                own.isScrolling = own.isBox() && styles.of(node, SCROLL) == 1;
            }
        }

        private int sortFor(Node node) {
            if (node.parent == null) {
                return BLOCK;
            }
            if (node.parent.layout.sort == NOT_SHOWN || styles.of(node, DISPLAY) == 0) {
                return NOT_SHOWN;
            }
            if (node.isText) {
                return SHOWN_TEXT;
            }
            if (styles.of(node, FLOAT) != 0) {
                return FLOATING;
            }
            return styles.of(node, DISPLAY) == 1 ? BLOCK : INLINE;
        }

        private static Node homeFor(Node node) {
            if (node.parent == null) {
                return null;
            }
            return node.parent.layout.isBox() ? node.parent : node.parent.layout.home;
        }

        /** From the end of the order, as the wish of a box hangs on those of the boxes in it. */
        private void findWishes(ArrayList<Node> order) {
            for (int i = order.size() - 1; i >= 0; i--) {
                if (order.get(i).layout.isBox()) {
                    findWish(order.get(i), order);
                }
            }
        }

        private void findWish(Node box, ArrayList<Node> order) {
            box.flow.wish = 0;
            box.flow.waiting = 0;
            for (int i = 0; i < order.size(); i++) {
                Node node = order.get(i);
                if (node.layout.home == box && node.layout.isBox()) {
                    int wide = widthOr(node, node.flow.wish) + 2 * node.layout.edge;
                    box.flow.wish = Math.max(box.flow.wish, wide);
                    box.flow.waiting = 0;
                } else if (node.layout.home == box && node.layout.sort == SHOWN_TEXT) {
                    addToWish(node, box.flow);
                }
            }
        }

        private void addToWish(Node text, Flow flow) {
            int font = styles.of(text, FONT);
            for (int word = 0; word < text.words; word++) {
                flow.waiting += text.lettersOf(word) * font;
                flow.wish = Math.max(flow.wish, flow.waiting);
                flow.waiting += font;
            }
        }

        private int widthOr(Node box, int ifAuto) {
            int width = styles.of(box, WIDTH);
            return width == AUTO ? Math.max(0, ifAuto) : width;
        }

        private void fill(Node box, ArrayList<Node> order, int depth) {
            Layout own = box.layout;
            box.flow.cursor = own.top;
            box.flow.gap = 0;
            own.lineCount = 0;
            putFlow(box, order, depth);
            putLines(box);
            int end = box.flow.cursor;
            if (box.flow.room == box.number) {
                end = floats.belowBottoms(box.number, ALL_SIDES, end);
            }
            own.reach = end - own.top;
            int height = styles.of(box, HEIGHT);
            own.high = height == AUTO ? own.reach : height;
        }

        private void putFlow(Node box, ArrayList<Node> order, int depth) {
            if (depth > MOST_ANCESTORS) {
                return;
            }
            for (int i = 0; i < order.size(); i++) {
                Node node = order.get(i);
                int sort = node.layout.home == box ? node.layout.sort : NOT_SHOWN;
                if (sort == SHOWN_TEXT) {
                    waiting.add(node, styles.of(node, FONT));
                } else if (sort == BLOCK) {
                    putLines(box);
                    putBlock(node, box, order, depth + 1);
                } else if (sort == FLOATING) {
                    putLines(box);
                    putFloat(node, box, order, depth + 1);
                }
            }
        }

        private void putBlock(Node block, Node box, ArrayList<Node> order, int depth) {
            Layout own = block.layout;
            Flow flow = box.flow;
            int margin = styles.of(block, MARGIN);
            flow.cursor += Math.max(0, margin - flow.gap);
            flow.cursor = floats.belowBottoms(flow.room, styles.of(block, CLEAR), flow.cursor);
            own.left = box.layout.left + own.edge;
            own.top = flow.cursor + own.inset;
            own.wide = widthOr(block, box.layout.wide - 2 * own.edge);
            block.flow.room = own.isScrolling ? block.number : flow.room;
            fill(block, order, depth);
            flow.cursor += own.high + 2 * own.inset + margin;
            flow.gap = margin;
        }

        private void putFloat(Node floating, Node box, ArrayList<Node> order, int depth) {
            Layout own = floating.layout;
            int room = box.flow.room;
            int side = styles.of(floating, FLOAT);
            int mostWide = Math.max(0, box.layout.wide - 2 * own.edge);
            own.wide = widthOr(floating, Math.min(floating.flow.wish, mostWide));
            int wide = own.wide + 2 * own.edge;
            int y = floats.belowTops(room, box.flow.cursor);
            y = floats.belowBottoms(room, styles.of(floating, CLEAR), y);
            y = floats.findRoom(wide, box, y);
            int x = side == 1 ? floats.spanBegin : floats.spanEnd - wide;
            own.left = x + own.edge;
            own.top = y + own.edge;
            floating.flow.room = floating.number;
            fill(floating, order, depth);
            floats.put(room, side, x, y, wide, own.high + 2 * own.edge);
        }

        private void putLines(Node box) {
            int align = styles.of(box, ALIGN);
            int first = 0;
            for (int line = 0; line < Waiting.MOST && first < waiting.count; line++) {
                int y = floats.findRoom(waiting.widthOf(first), box, box.flow.cursor);
                int room = floats.spanEnd - floats.spanBegin;
                int behind = waiting.takeLine(first, room);
                int spare = Math.max(0, room - waiting.lineWide);
                int ahead = align == 0 ? 0 : align == 1 ? spare / 2 : spare;
                waiting.setLine(first, behind, floats.spanBegin + ahead, y);
                box.flow.cursor = y + 2 * waiting.lineFont;
                box.flow.gap = 0;
                box.layout.lineCount++;
                lineCount++;
                widthOfLines += waiting.lineWide;
                first = behind;
            }
            waiting.clear();
        }

        /** When all is laid out: the order has parents ahead of what is moved with them. */
        private void shift(ArrayList<Node> order) {
            for (int i = 0; i < order.size(); i++) {
                Node node = order.get(i);
                Layout own = node.layout;
                own.shiftX = own.isBox() ? styles.of(node, LEFT) : 0;
                own.shiftY = own.isBox() ? styles.of(node, TOP) : 0;
                own.movedUp = own.isScrolling ? Math.min(node.offset, Math.max(0, own.reach - own.high)) : 0;
                if (node.parent != null) {
                    own.shiftX += node.parent.layout.shiftX;
                    own.shiftY += node.parent.layout.shiftY - node.parent.layout.movedUp;
                }
            }
        }
    }
}
