/** Promises 9 to 14 and 22 to 27: rules, declarations, the view, offsets, and what styles come to. */
public final class StyleTest extends Build {
    private static final Checker CHECK = new Checker("StyleTest");

    private StyleTest() {
    }

    public static void main(String[] args) {
        addRule();
        addPart();
        turn();
        declare();
        setView();
        scroll();
        weight();
        matches();
        choiceOfAncestors();
        cascade();
        inherited();
        asTheParentHasIt();
        CHECK.end();
    }

    private static void addRule() {
        PinnaceView v = new PinnaceView();
        for (int i = 0; i < 24; i++) {
            int p = i % 14;
            CHECK.same("9 number", v.addRule(p, i < 14 ? LEAST[p] : i < 20 ? GREATEST[p] : 9999, i % 2 == 0), i);
            CHECK.same("22 rules", v.rules(), i + 1);
        }
        CHECK.same("9 without parts", v.matched(0), 0);
        v.addPart(3, -1, -1, 0, false);
        v.addPart(17, -1, -1, 0, false);
        CHECK.same("9 on, with its value", v.styleOf(0, 3), 100);
    }

    private static void addPart() {
        PinnaceView v = new PinnaceView();
        v.addRule(8, 1, false);
        CHECK.same("10 first", v.addPart(0, -1, -1, 0, false), 1);
        CHECK.same("10 second", v.addPart(0, 7, 7, 99, true), 2);
        CHECK.same("10 third", v.addPart(0, 0, 0, 0, false), 3);
    }

    private static void turn() {
        PinnaceView v = new PinnaceView();
        int rule = ruleForAll(v, 8, 77, false);
        CHECK.same("11 on at first", v.styleOf(0, 8), 77);
        CHECK.same("11 off", v.turn(rule), false);
        CHECK.same("11 does not count", v.styleOf(0, 8), 0);
        CHECK.same("11 nor is it why", v.because(0, 8), -3);
        CHECK.same("24 matches, on or off", v.matches(rule, 0), true);
        CHECK.same("25 matched, on or off", v.matched(rule), 1);
        CHECK.same("11 on again", v.turn(rule), true);
        CHECK.same("11 counts again", v.styleOf(0, 8), 77);
    }

    private static void declare() {
        PinnaceView v = new PinnaceView();
        v.addText(0);
        v.addElement(0, 0);
        for (int property = 0; property < 14; property++) {
            int p = property;
            CHECK.same("12 nothing before", v.declare(2, p, LEAST[p]), 9998);
            CHECK.same("12 the least", v.styleOf(2, p), LEAST[p]);
            CHECK.same("12 the least before", v.declare(2, p, GREATEST[p]), LEAST[p]);
            CHECK.same("12 the greatest", v.styleOf(2, p), GREATEST[p]);
            CHECK.same("12 the greatest before", v.declare(2, p, 9999), GREATEST[p]);
            CHECK.same("12 as the parent", v.styleOf(2, p), FIRST[p]);
            CHECK.same("12 none any more", v.declare(2, p, 9998), 9999);
            CHECK.same("12 the first", v.styleOf(2, p), FIRST[p]);
            CHECK.same("12 nothing before again", v.declare(2, p, 9998), 9998);
        }
    }

    private static void setView() {
        PinnaceView v = new PinnaceView();
        CHECK.same("13 before", v.setView(2000), 400);
        CHECK.same("13 the root is so wide", v.wideOf(0), 2000);
        CHECK.same("13 the least", v.setView(20), 2000);
        CHECK.same("13 the root is so narrow", v.wideOf(0), 20);
    }

    private static void scroll() {
        PinnaceView v = new PinnaceView();
        v.addElement(0, 0);
        v.addText(0);
        CHECK.same("14 0 at first", v.scroll(1, 5000), 0);
        CHECK.same("14 before", v.scroll(1, 0), 5000);
        CHECK.same("14 each its own", v.scroll(0, 3), 0);
    }

    private static void weight() {
        PinnaceView v = new PinnaceView();
        v.addRule(8, 1, true);
        CHECK.same("23 no parts", v.weight(0), 0);
        v.addPart(0, -1, -1, 0, true);
        CHECK.same("23 asks for nothing", v.weight(0), 0);
        v.addPart(0, 0, 0, 1, false);
        CHECK.same("23 tag, class, name", v.weight(0), 111);
        v.addPart(0, 7, -1, 99, false);
        CHECK.same("23 together", v.weight(0), 212);
    }

    private static void matches() {
        PinnaceView v = new PinnaceView();
        v.addElement(0, 1);
        v.addElement(1, 2);
        v.addElement(2, 3);
        v.addText(3);
        v.setClass(2, 4, true);
        v.setName(3, 9);
        v.addRule(8, 1, false);
        CHECK.same("24 no parts", v.matches(0, 0), false);
        CHECK.same("25 no parts", v.matched(0), 0);
        v.addPart(0, -1, -1, 0, true);
        CHECK.same("24 the root, close with nothing ahead", v.matches(0, 0), true);
        CHECK.same("25 all elements", v.matched(0), 4);
        CHECK.same("24 a text", v.matches(0, 4), false);
        v.addPart(0, -1, -1, 0, false);
        CHECK.same("24 the root has no ancestor", v.matches(0, 0), false);
        CHECK.same("25 all but the root", v.matched(0), 3);
        v.addRule(8, 1, false);
        v.addPart(1, 1, -1, 0, false);
        v.addPart(1, 3, -1, 9, false);
        CHECK.same("24 some ancestor", v.matches(1, 3), true);
        v.addRule(8, 1, false);
        v.addPart(2, 1, -1, 0, false);
        v.addPart(2, 3, -1, 9, true);
        CHECK.same("24 not its parent", v.matches(2, 3), false);
        v.addRule(8, 1, false);
        v.addPart(3, 2, 4, 0, false);
        v.addPart(3, 3, -1, 9, true);
        CHECK.same("24 its parent", v.matches(3, 3), true);
        v.setClass(2, 4, false);
        CHECK.same("24 the class is asked for", v.matches(3, 3), false);
        v.setName(3, 8);
        CHECK.same("24 the name is asked for", v.matches(1, 3), false);
        v.takeAway(3);
        CHECK.same("25 gone ones do not count", v.matched(0), 2);
    }

    /** The nearest ancestor that fits is not always the one whose own ancestors fit. */
    private static void choiceOfAncestors() {
        PinnaceView v = new PinnaceView();
        v.addElement(0, 1);
        v.addElement(1, 2);
        v.addElement(2, 5);
        v.addElement(3, 2);
        v.addElement(4, 3);
        v.addRule(8, 1, false);
        v.addPart(0, 1, -1, 0, false);
        v.addPart(0, 2, -1, 0, true);
        v.addPart(0, 3, -1, 0, false);
        CHECK.same("24 the farther one", v.matches(0, 5), true);
        v.addRule(8, 1, false);
        v.addPart(1, 1, -1, 0, false);
        v.addPart(1, 2, -1, 0, true);
        v.addPart(1, 3, -1, 0, true);
        CHECK.same("24 only the parent", v.matches(1, 5), false);
        v.addRule(8, 1, false);
        v.addPart(2, 2, -1, 0, true);
        v.addPart(2, 2, -1, 0, false);
        v.addPart(2, 3, -1, 0, true);
        CHECK.same("24 the first part's own closeness counts for nothing", v.matches(2, 5), true);
        v.addRule(8, 1, false);
        v.addPart(3, 3, -1, 0, false);
        v.addPart(3, 3, -1, 0, false);
        CHECK.same("24 itself is no ancestor", v.matches(3, 5), false);
    }

    private static void cascade() {
        PinnaceView v = new PinnaceView();
        v.addElement(0, 1);
        CHECK.same("26 the first value", v.styleOf(1, 3), 0);
        CHECK.same("27 nothing declares it", v.because(1, 3), -3);
        int heavy = v.addRule(3, 10, false);
        v.addPart(heavy, 1, -1, 0, false);
        int light = ruleForAll(v, 3, 11, false);
        CHECK.same("26 the weight ahead of the number", v.styleOf(1, 3), 10);
        CHECK.same("27 the heavy one", v.because(1, 3), heavy);
        CHECK.same("27 the light one on the root", v.because(0, 3), light);
        int later = v.addRule(3, 12, false);
        v.addPart(later, 1, -1, 0, false);
        CHECK.same("26 the greater number", v.styleOf(1, 3), 12);
        CHECK.same("27 the later one", v.because(1, 3), later);
        v.declare(1, 3, 13);
        CHECK.same("26 itself", v.styleOf(1, 3), 13);
        CHECK.same("27 itself", v.because(1, 3), -1);
        int strong = ruleForAll(v, 3, 14, true);
        CHECK.same("26 a strong one", v.styleOf(1, 3), 14);
        CHECK.same("27 the strong one", v.because(1, 3), strong);
        int stronger = v.addRule(3, 15, true);
        v.addPart(stronger, 1, -1, 0, false);
        int lightAgain = ruleForAll(v, 3, 16, true);
        CHECK.same("26 the heavier of the strong ones", v.styleOf(1, 3), 15);
        v.turn(stronger);
        CHECK.same("27 the later of the strong ones", v.because(1, 3), lightAgain);
        v.turn(strong);
        v.turn(lightAgain);
        v.declare(1, 3, 9998);
        CHECK.same("26 the others again", v.styleOf(1, 3), 12);
        CHECK.same("26 other properties are free of it", v.styleOf(1, 4), 0);
    }

    private static void inherited() {
        PinnaceView v = new PinnaceView();
        v.addElement(0, 1);
        v.addElement(1, 1);
        v.addText(2);
        for (int property = 0; property < 14; property++) {
            boolean isInherited = property >= 8 && property <= 10;
            CHECK.same("26 root's first", v.styleOf(0, property), FIRST[property]);
            CHECK.same("27 root's first", v.because(0, property), -3);
            int value = FIRST[property] == GREATEST[property] ? LEAST[property] : GREATEST[property];
            v.declare(1, property, value);
            int due = isInherited ? value : FIRST[property];
            CHECK.same("26 the child of " + property, v.styleOf(2, property), due);
            CHECK.same("27 the child of " + property, v.because(2, property), isInherited ? -2 : -3);
            CHECK.same("26 the text of " + property, v.styleOf(3, property), due);
            CHECK.same("27 the text of " + property, v.because(3, property), isInherited ? -2 : -3);
            v.declare(1, property, 9998);
        }
        ruleForAll(v, 9, 30, true);
        CHECK.same("26 no rule of its own for a text", v.styleOf(3, 9), 30);
        CHECK.same("27 no rule of its own for a text", v.because(3, 9), -2);
        v.move(3, 0, 0);
        v.declare(0, 8, 9);
        CHECK.same("26 from the parent that it has now", v.styleOf(3, 8), 9);
        v.move(1, 0, 1);
        v.addElement(0, 0);
        v.move(1, 4, 0);
        v.declare(4, 8, 10);
        CHECK.same("26 from a parent with a greater number", v.styleOf(2, 8), 10);
    }

    private static void asTheParentHasIt() {
        PinnaceView v = new PinnaceView();
        v.addElement(0, 1);
        v.addElement(1, 1);
        v.declare(1, 3, 17);
        v.declare(2, 3, 9999);
        CHECK.same("26 9999 by itself", v.styleOf(2, 3), 17);
        CHECK.same("27 9999 by itself", v.because(2, 3), -1);
        int rule = ruleForAll(v, 4, 9999, false);
        v.declare(1, 4, 5);
        CHECK.same("26 9999 by a rule", v.styleOf(2, 4), 5);
        CHECK.same("27 9999 by a rule", v.because(2, 4), rule);
        CHECK.same("26 9999 of the root", v.styleOf(0, 4), 0);
        CHECK.same("27 9999 of the root", v.because(0, 4), rule);
        v.declare(0, 9, 9999);
        CHECK.same("26 9999 of the root, inherited", v.styleOf(0, 9), 8);
        CHECK.same("27 9999 of the root, inherited", v.because(0, 9), -1);
    }
}
