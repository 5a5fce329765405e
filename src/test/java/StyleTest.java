/** Promises 9 to 14 and 22 to 27: rules, declarations, the view, offsets, and what styles come to. */
public final class StyleTest {
    private static final Class<?> INDEX = IndexOutOfBoundsException.class;
    private static final Class<?> ARGUMENT = IllegalArgumentException.class;
    private static final Class<?> STATE = IllegalStateException.class;
    private static final int[] LEAST = {0, -1, -1, 0, 0, 0, 0, 0, 0, 1, 0, 0, -500, -500};
    private static final int[] GREATEST = {2, 1000, 1000, 100, 100, 20, 2, 3, 255, 40, 2, 1, 500, 500};
    private static final int[] FIRST = {1, -1, -1, 0, 0, 0, 0, 0, 0, 8, 0, 0, 0, 0};
    private static final Checker CHECK = new Checker("StyleTest");

    private StyleTest() {
    }

    public static void main(String[] args) {
        addRule();
        addPart();
        turn();
        declare();
        setView();
        scroll();
        weight();
        matches();
        choiceOfAncestors();
        cascade();
        inherited();
        asTheParentHasIt();
        CHECK.end();
    }

    /** A rule whose selector has one part that fits each element. */
    private static int ruleForAll(PinnaceView v, int property, int value, boolean isStrong) {
        int rule = v.addRule(property, value, isStrong);
        v.addPart(rule, -1, -1, 0, false);
        return rule;
    }

    private static void addRule() {
        PinnaceView v = new PinnaceView();
        CHECK.refuses("9 property 14", v, INDEX, () -> v.addRule(14, 0, false));
        CHECK.refuses("9 property -1", v, INDEX, () -> v.addRule(-1, 0, false));
        for (int property = 0; property < 14; property++) {
            int p = property;
            CHECK.refuses("9 below, of " + p, v, ARGUMENT, () -> v.addRule(p, LEAST[p] - 1, false));
            CHECK.refuses("9 above, of " + p, v, ARGUMENT, () -> v.addRule(p, GREATEST[p] + 1, false));
            CHECK.refuses("9 9998, of " + p, v, ARGUMENT, () -> v.addRule(p, 9998, false));
        }
        for (int i = 0; i < 24; i++) {
            int p = i % 14;
            CHECK.same("9 number", v.addRule(p, i < 14 ? LEAST[p] : i < 20 ? GREATEST[p] : 9999, i % 2 == 0), i);
            CHECK.same("22 rules", v.rules(), i + 1);
        }
        CHECK.refuses("9 a 25th", v, STATE, () -> v.addRule(0, 0, false));
        CHECK.refuses("9 a 25th of no value", v, ARGUMENT, () -> v.addRule(0, 3, false));
        CHECK.refuses("9 a 25th of no property", v, INDEX, () -> v.addRule(14, 3, false));
        CHECK.same("9 without parts", v.matched(0), 0);
        v.addPart(3, -1, -1, 0, false);
        v.addPart(17, -1, -1, 0, false);
        CHECK.same("9 on, with its value", v.styleOf(0, 3), 100);
    }

    private static void addPart() {
        PinnaceView v = new PinnaceView();
        v.addRule(8, 1, false);
        CHECK.same("10 first", v.addPart(0, -1, -1, 0, false), 1);
        CHECK.same("10 second", v.addPart(0, 7, 7, 99, true), 2);
        CHECK.refuses("10 tag 8", v, ARGUMENT, () -> v.addPart(0, 8, 0, 0, false));
        CHECK.refuses("10 tag -2", v, ARGUMENT, () -> v.addPart(0, -2, 0, 0, false));
        CHECK.refuses("10 class 8", v, ARGUMENT, () -> v.addPart(0, 0, 8, 0, false));
        CHECK.refuses("10 class -2", v, ARGUMENT, () -> v.addPart(0, 0, -2, 0, false));
        CHECK.refuses("10 name -1", v, ARGUMENT, () -> v.addPart(0, 0, 0, -1, false));
        CHECK.refuses("10 name 100", v, ARGUMENT, () -> v.addPart(0, 0, 0, 100, false));
        CHECK.refuses("10 no such rule", v, INDEX, () -> v.addPart(1, 8, 0, 0, false));
        CHECK.refuses("10 rule -1", v, INDEX, () -> v.addPart(-1, 0, 0, 0, false));
        CHECK.same("10 third", v.addPart(0, 0, 0, 0, false), 3);
        CHECK.refuses("10 a fourth", v, STATE, () -> v.addPart(0, 0, 0, 0, false));
        CHECK.refuses("10 a fourth of no tag", v, ARGUMENT, () -> v.addPart(0, 8, 0, 0, false));
    }

    private static void turn() {
        PinnaceView v = new PinnaceView();
        int rule = ruleForAll(v, 8, 77, false);
        CHECK.same("11 on at first", v.styleOf(0, 8), 77);
        CHECK.same("11 off", v.turn(rule), false);
        CHECK.same("11 does not count", v.styleOf(0, 8), 0);
        CHECK.same("11 nor is it why", v.because(0, 8), -3);
        CHECK.same("24 matches, on or off", v.matches(rule, 0), true);
        CHECK.same("25 matched, on or off", v.matched(rule), 1);
        CHECK.same("11 on again", v.turn(rule), true);
        CHECK.same("11 counts again", v.styleOf(0, 8), 77);
        CHECK.refuses("11 no such rule", v, INDEX, () -> v.turn(1));
        CHECK.refuses("11 rule -1", v, INDEX, () -> v.turn(-1));
    }

    private static void declare() {
        PinnaceView v = new PinnaceView();
        v.addText(0);
        v.addElement(0, 0);
        for (int property = 0; property < 14; property++) {
            int p = property;
            CHECK.same("12 nothing before", v.declare(2, p, LEAST[p]), 9998);
            CHECK.same("12 the least", v.styleOf(2, p), LEAST[p]);
            CHECK.same("12 the least before", v.declare(2, p, GREATEST[p]), LEAST[p]);
            CHECK.same("12 the greatest", v.styleOf(2, p), GREATEST[p]);
            CHECK.refuses("12 below", v, ARGUMENT, () -> v.declare(2, p, LEAST[p] - 1));
            CHECK.refuses("12 above", v, ARGUMENT, () -> v.declare(2, p, GREATEST[p] + 1));
            CHECK.same("12 the greatest before", v.declare(2, p, 9999), GREATEST[p]);
            CHECK.same("12 as the parent", v.styleOf(2, p), FIRST[p]);
            CHECK.same("12 none any more", v.declare(2, p, 9998), 9999);
            CHECK.same("12 the first", v.styleOf(2, p), FIRST[p]);
            CHECK.same("12 nothing before again", v.declare(2, p, 9998), 9998);
        }
        CHECK.refuses("12 9997", v, ARGUMENT, () -> v.declare(2, 1, 9997));
        CHECK.refuses("12 a text", v, ARGUMENT, () -> v.declare(1, 8, 1));
        CHECK.refuses("12 a text, 9998", v, ARGUMENT, () -> v.declare(1, 8, 9998));
        CHECK.refuses("12 property 14", v, INDEX, () -> v.declare(0, 14, 0));
        CHECK.refuses("12 property -1 of a text", v, INDEX, () -> v.declare(1, -1, 0));
        CHECK.refuses("12 no such node", v, INDEX, () -> v.declare(3, 0, 9));
        v.takeAway(2);
        CHECK.refuses("12 gone", v, INDEX, () -> v.declare(2, 0, 9));
    }

    private static void setView() {
        PinnaceView v = new PinnaceView();
        CHECK.same("13 before", v.setView(2000), 400);
        CHECK.same("13 the root is so wide", v.wideOf(0), 2000);
        CHECK.same("13 the least", v.setView(20), 2000);
        CHECK.same("13 the root is so narrow", v.wideOf(0), 20);
        CHECK.refuses("13 19", v, ARGUMENT, () -> v.setView(19));
        CHECK.refuses("13 2001", v, ARGUMENT, () -> v.setView(2001));
    }

    private static void scroll() {
        PinnaceView v = new PinnaceView();
        v.addElement(0, 0);
        v.addText(0);
        CHECK.same("14 0 at first", v.scroll(1, 5000), 0);
        CHECK.same("14 before", v.scroll(1, 0), 5000);
        CHECK.same("14 each its own", v.scroll(0, 3), 0);
        CHECK.refuses("14 5001", v, ARGUMENT, () -> v.scroll(1, 5001));
        CHECK.refuses("14 -1", v, ARGUMENT, () -> v.scroll(1, -1));
        CHECK.refuses("14 a text", v, ARGUMENT, () -> v.scroll(2, 0));
        CHECK.refuses("14 no such node", v, INDEX, () -> v.scroll(3, -1));
        v.takeAway(1);
        CHECK.refuses("14 gone", v, INDEX, () -> v.scroll(1, 0));
    }

    private static void weight() {
        PinnaceView v = new PinnaceView();
        v.addRule(8, 1, true);
        CHECK.same("23 no parts", v.weight(0), 0);
        v.addPart(0, -1, -1, 0, true);
        CHECK.same("23 asks for nothing", v.weight(0), 0);
        v.addPart(0, 0, 0, 1, false);
        CHECK.same("23 tag, class, name", v.weight(0), 111);
        v.addPart(0, 7, -1, 99, false);
        CHECK.same("23 together", v.weight(0), 212);
        CHECK.refuses("23 no such rule", v, INDEX, () -> v.weight(1));
        CHECK.refuses("23 rule -1", v, INDEX, () -> v.weight(-1));
    }

    private static void matches() {
        PinnaceView v = new PinnaceView();
        v.addElement(0, 1);
        v.addElement(1, 2);
        v.addElement(2, 3);
        v.addText(3);
        v.setClass(2, 4, true);
        v.setName(3, 9);
        v.addRule(8, 1, false);
        CHECK.same("24 no parts", v.matches(0, 0), false);
        CHECK.same("25 no parts", v.matched(0), 0);
        v.addPart(0, -1, -1, 0, true);
        CHECK.same("24 the root, close with nothing ahead", v.matches(0, 0), true);
        CHECK.same("25 all elements", v.matched(0), 4);
        CHECK.same("24 a text", v.matches(0, 4), false);
        v.addPart(0, -1, -1, 0, false);
        CHECK.same("24 the root has no ancestor", v.matches(0, 0), false);
        CHECK.same("25 all but the root", v.matched(0), 3);
        v.addRule(8, 1, false);
        v.addPart(1, 1, -1, 0, false);
        v.addPart(1, 3, -1, 9, false);
        CHECK.same("24 some ancestor", v.matches(1, 3), true);
        v.addRule(8, 1, false);
        v.addPart(2, 1, -1, 0, false);
        v.addPart(2, 3, -1, 9, true);
        CHECK.same("24 not its parent", v.matches(2, 3), false);
        v.addRule(8, 1, false);
        v.addPart(3, 2, 4, 0, false);
        v.addPart(3, 3, -1, 9, true);
        CHECK.same("24 its parent", v.matches(3, 3), true);
        v.setClass(2, 4, false);
        CHECK.same("24 the class is asked for", v.matches(3, 3), false);
        v.setName(3, 8);
        CHECK.same("24 the name is asked for", v.matches(1, 3), false);
        v.takeAway(3);
        CHECK.same("25 gone ones do not count", v.matched(0), 2);
        CHECK.refuses("24 gone", v, INDEX, () -> v.matches(0, 3));
        CHECK.refuses("24 a text gone", v, INDEX, () -> v.matches(0, 4));
        CHECK.refuses("24 no such node", v, INDEX, () -> v.matches(0, 5));
        CHECK.refuses("24 no such rule", v, INDEX, () -> v.matches(4, 0));
        CHECK.refuses("24 rule -1", v, INDEX, () -> v.matches(-1, 0));
        CHECK.refuses("25 no such rule", v, INDEX, () -> v.matched(4));
        CHECK.refuses("25 rule -1", v, INDEX, () -> v.matched(-1));
    }

    /** The nearest ancestor that fits is not always the one whose own ancestors fit. */
    private static void choiceOfAncestors() {
        PinnaceView v = new PinnaceView();
        v.addElement(0, 1);
        v.addElement(1, 2);
        v.addElement(2, 5);
        v.addElement(3, 2);
        v.addElement(4, 3);
        v.addRule(8, 1, false);
        v.addPart(0, 1, -1, 0, false);
        v.addPart(0, 2, -1, 0, true);
        v.addPart(0, 3, -1, 0, false);
        CHECK.same("24 the farther one", v.matches(0, 5), true);
        v.addRule(8, 1, false);
        v.addPart(1, 1, -1, 0, false);
        v.addPart(1, 2, -1, 0, true);
        v.addPart(1, 3, -1, 0, true);
        CHECK.same("24 only the parent", v.matches(1, 5), false);
        v.addRule(8, 1, false);
        v.addPart(2, 2, -1, 0, true);
        v.addPart(2, 2, -1, 0, false);
        v.addPart(2, 3, -1, 0, true);
        CHECK.same("24 the first part's own closeness counts for nothing", v.matches(2, 5), true);
        v.addRule(8, 1, false);
        v.addPart(3, 3, -1, 0, false);
        v.addPart(3, 3, -1, 0, false);
        CHECK.same("24 itself is no ancestor", v.matches(3, 5), false);
    }

    private static void cascade() {
        PinnaceView v = new PinnaceView();
        v.addElement(0, 1);
        CHECK.same("26 the first value", v.styleOf(1, 3), 0);
        CHECK.same("27 nothing declares it", v.because(1, 3), -3);
        int heavy = v.addRule(3, 10, false);
        v.addPart(heavy, 1, -1, 0, false);
        int light = ruleForAll(v, 3, 11, false);
        CHECK.same("26 the weight ahead of the number", v.styleOf(1, 3), 10);
        CHECK.same("27 the heavy one", v.because(1, 3), heavy);
        CHECK.same("27 the light one on the root", v.because(0, 3), light);
        int later = v.addRule(3, 12, false);
        v.addPart(later, 1, -1, 0, false);
        CHECK.same("26 the greater number", v.styleOf(1, 3), 12);
        CHECK.same("27 the later one", v.because(1, 3), later);
        v.declare(1, 3, 13);
        CHECK.same("26 itself", v.styleOf(1, 3), 13);
        CHECK.same("27 itself", v.because(1, 3), -1);
        int strong = ruleForAll(v, 3, 14, true);
        CHECK.same("26 a strong one", v.styleOf(1, 3), 14);
        CHECK.same("27 the strong one", v.because(1, 3), strong);
        int stronger = v.addRule(3, 15, true);
        v.addPart(stronger, 1, -1, 0, false);
        int lightAgain = ruleForAll(v, 3, 16, true);
        CHECK.same("26 the heavier of the strong ones", v.styleOf(1, 3), 15);
        v.turn(stronger);
        CHECK.same("27 the later of the strong ones", v.because(1, 3), lightAgain);
        v.turn(strong);
        v.turn(lightAgain);
        v.declare(1, 3, 9998);
        CHECK.same("26 the others again", v.styleOf(1, 3), 12);
        CHECK.same("26 other properties are free of it", v.styleOf(1, 4), 0);
        refusalsOf(v);
    }

    private static void refusalsOf(PinnaceView v) {
        int text = v.addText(0);
        v.takeAway(text);
        for (int node : new int[] {text, text + 1, -1}) {
            CHECK.refuses("26 of " + node, v, INDEX, () -> v.styleOf(node, 0));
            CHECK.refuses("27 of " + node, v, INDEX, () -> v.because(node, 0));
        }
        for (int property : new int[] {-1, 14, Integer.MAX_VALUE}) {
            CHECK.refuses("26 property " + property, v, INDEX, () -> v.styleOf(0, property));
            CHECK.refuses("27 property " + property, v, INDEX, () -> v.because(0, property));
        }
    }

    private static void inherited() {
        PinnaceView v = new PinnaceView();
        v.addElement(0, 1);
        v.addElement(1, 1);
        v.addText(2);
        for (int property = 0; property < 14; property++) {
            boolean isInherited = property >= 8 && property <= 10;
            CHECK.same("26 root's first", v.styleOf(0, property), FIRST[property]);
            CHECK.same("27 root's first", v.because(0, property), -3);
            int value = FIRST[property] == GREATEST[property] ? LEAST[property] : GREATEST[property];
            v.declare(1, property, value);
            int due = isInherited ? value : FIRST[property];
            CHECK.same("26 the child of " + property, v.styleOf(2, property), due);
            CHECK.same("27 the child of " + property, v.because(2, property), isInherited ? -2 : -3);
            CHECK.same("26 the text of " + property, v.styleOf(3, property), due);
            CHECK.same("27 the text of " + property, v.because(3, property), isInherited ? -2 : -3);
            v.declare(1, property, 9998);
        }
        ruleForAll(v, 9, 30, true);
        CHECK.same("26 no rule of its own for a text", v.styleOf(3, 9), 30);
        CHECK.same("27 no rule of its own for a text", v.because(3, 9), -2);
        v.move(3, 0, 0);
        v.declare(0, 8, 9);
        CHECK.same("26 from the parent that it has now", v.styleOf(3, 8), 9);
        v.move(1, 0, 1);
        v.addElement(0, 0);
        v.move(1, 4, 0);
        v.declare(4, 8, 10);
        CHECK.same("26 from a parent with a greater number", v.styleOf(2, 8), 10);
    }

    private static void asTheParentHasIt() {
        PinnaceView v = new PinnaceView();
        v.addElement(0, 1);
        v.addElement(1, 1);
        v.declare(1, 3, 17);
        v.declare(2, 3, 9999);
        CHECK.same("26 9999 by itself", v.styleOf(2, 3), 17);
        CHECK.same("27 9999 by itself", v.because(2, 3), -1);
        int rule = ruleForAll(v, 4, 9999, false);
        v.declare(1, 4, 5);
        CHECK.same("26 9999 by a rule", v.styleOf(2, 4), 5);
        CHECK.same("27 9999 by a rule", v.because(2, 4), rule);
        CHECK.same("26 9999 of the root", v.styleOf(0, 4), 0);
        CHECK.same("27 9999 of the root", v.because(0, 4), rule);
        v.declare(0, 9, 9999);
        CHECK.same("26 9999 of the root, inherited", v.styleOf(0, 9), 8);
        CHECK.same("27 9999 of the root, inherited", v.because(0, 9), -1);
    }
}
