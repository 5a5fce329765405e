/** Edges of properties, rules and the cascade: Terms 2 to 4, promises 9 to 14 and 22 to 27. */
final class StyleEdges extends Build {
    private static final String[] TERMS_OF_PROPERTIES = {"0 DISPLAY: 0 none, 1 block, 2 inline; 1; no.",
        "1 WIDTH: -1 auto, 0 to 1000; -1; no.", "2 HEIGHT: likewise.", "3 MARGIN: 0 to 100; 0; no.",
        "4 PADDING: 0 to 100; 0; no.", "5 BORDER: 0 to 20; 0; no.", "6 FLOAT: 0 none, 1 left, 2 right; 0; no.",
        "7 CLEAR: 0 none, 1 left, 2 right, 3 both; 0; no.", "8 COLOR: 0 to 255; 0; yes.", "9 FONT: 1 to 40; 8; yes.",
        "10 ALIGN: 0 left, 1 middle, 2 right; 0; yes.", "11 SCROLL: 0 no, 1 yes; 0; no.", "12 LEFT: -500 to 500; 0; no.",
        "13 TOP: likewise."};
    private final Edges edges;

    StyleEdges(Edges edges) {
        this.edges = edges;
    }

    void check() {
        properties();
        asTheParentHasIt();
        rules();
        parts();
        partsAskFor();
        ancestors();
        closeOnes();
        weights();
        matched();
        weightsDecide();
        order();
        onlyOnesThatCount();
        nothingDeclared();
        texts();
        because();
        turn();
        declare();
        viewAndOffset();
    }

    private void properties() {
        edges.terms(2, "PROPERTIES, each with its number, its values, the FIRST one, and whether it is INHERITED");
        for (int p = 0; p < PROPERTIES; p++) {
            edges.terms(2, TERMS_OF_PROPERTIES[p]);
            boolean isInherited = TERMS_OF_PROPERTIES[p].endsWith("yes.");
            for (int value : new int[] {LEAST[p], GREATEST[p]}) {
                PinnaceView v = new PinnaceView();
                v.addElement(0, 1);
                edges.same("the FIRST", v.styleOf(1, p), FIRST[p]);
                edges.same("the FIRST of the root", v.styleOf(0, p), FIRST[p]);
                v.declare(0, p, value);
                edges.same("the root declares it", v.styleOf(0, p), value);
                edges.same("INHERITED or not", v.styleOf(1, p), isInherited ? value : FIRST[p]);
                v.declare(0, p, 9998);
                v.declare(1, p, value);
                edges.same("the element declares it", v.styleOf(1, p), value);
                edges.same("the root has not", v.styleOf(0, p), FIRST[p]);
                v.declare(1, p, 9998);
                int rule = v.addRule(p, value, false);
                v.addPart(rule, 1, -1, 0, false);
                edges.same("a rule declares it", v.styleOf(1, p), value);
                edges.same("not of the root", v.styleOf(0, p), FIRST[p]);
            }
        }
    }

    private void asTheParentHasIt() {
        edges.terms(2, "For each of them one can also declare 9999: as the parent has it.");
        for (int property = 0; property < PROPERTIES; property++) {
            int p = property;
            PinnaceView v = new PinnaceView();
            v.addElement(0, 1);
            v.addElement(1, 2);
            int value = FIRST[p] == GREATEST[p] ? LEAST[p] : GREATEST[p];
            edges.same("declared", v.declare(2, p, 9999), 9998);
            edges.same("the FIRST of the parent", v.styleOf(2, p), FIRST[p]);
            v.declare(1, p, value);
            edges.same("as the parent declares it", v.styleOf(2, p), value);
            v.declare(1, p, 9999);
            v.declare(0, p, value);
            edges.same("as the parent's parent", v.styleOf(2, p), value);
            v.declare(0, p, 9999);
            edges.same("the root has the FIRST", v.styleOf(0, p), FIRST[p]);
            edges.same("and so all", v.styleOf(2, p), FIRST[p]);
            v.declare(2, p, 9998);
            v.declare(1, p, value);
            int rule = v.addRule(p, 9999, false);
            v.addPart(rule, 2, -1, 0, false);
            edges.same("by a rule", v.styleOf(2, p), value);
        }
    }

    private void rules() {
        edges.terms(3, "At most 24, numbered from 0, each with one property, a value for it, whether it is STRONG, "
                + "whether it is on (at first) or off, and a selector: up to 3 PARTS (none, at first), numbered from 0.");
        PinnaceView v = new PinnaceView();
        for (int rule = 0; rule < 24; rule++) {
            edges.same("its number", v.addRule(COLOR, rule + 1, rule % 2 == 0), rule);
            edges.same("so many then", v.rules(), rule + 1);
            edges.same("no parts at first", v.matched(rule), 0);
            edges.same("one part", v.addPart(rule, -1, -1, 0, false), 1);
            edges.same("on at first", v.styleOf(0, COLOR), rule + 1);
            edges.same("two parts", v.addPart(rule, -1, -1, 0, false), 2);
            edges.same("three parts", v.addPart(rule, -1, -1, 0, false), 3);
        }
        edges.promise(9, "Returns its number.");
        PinnaceView w = Scenes.MIXED.built();
        edges.same("behind the others", w.addRule(0, 1, true), Scenes.RULES);
        edges.same("behind that", w.addRule(13, 9999, false), Scenes.RULES + 1);
        edges.promise(9, "Adds a rule without parts, on.");
        PinnaceView fresh = new PinnaceView();
        fresh.addRule(COLOR, 7, true);
        edges.same("no weight", fresh.weight(0), 0);
        edges.same("no matches", fresh.matches(0, 0), false);
        edges.same("nothing is declared", fresh.because(0, COLOR), -3);
        edges.same("nothing would change", fresh.changedBy(0), 0);
        edges.same("turned, it is off", fresh.turn(0), false);
    }

    private void parts() {
        edges.promise(10, "Returns how many parts there are then.");
        PinnaceView v = new PinnaceView();
        v.addRule(COLOR, 1, false);
        v.addRule(COLOR, 2, false);
        edges.same("one", v.addPart(0, -1, -1, 0, true), 1);
        edges.same("two", v.addPart(0, 7, 7, 99, false), 2);
        edges.same("one of another rule", v.addPart(1, 0, 0, 1, false), 1);
        edges.same("three", v.addPart(0, 0, 0, 0, true), 3);
        edges.promise(10, "Adds a part to the selector of a rule, behind the others.");
        PinnaceView w = new PinnaceView();
        w.addElement(0, 1);
        w.addElement(1, 2);
        w.addElement(2, 3);
        w.addRule(COLOR, 1, false);
        w.addPart(0, 1, -1, 0, false);
        edges.same("one part", w.matches(0, 1), true);
        w.addPart(0, 2, -1, 0, false);
        edges.same("two, the last one fits", w.matches(0, 2), true);
        edges.same("two, the first one does not count alone", w.matches(0, 1), false);
        w.addPart(0, 3, -1, 0, false);
        edges.same("three, in this order", w.matches(0, 3), true);
        edges.same("three, not with two", w.matches(0, 2), false);
    }

    private void partsAskFor() {
        edges.terms(3, "A part asks for a tag (or -1: any), a class (or -1: none), and a name (or 0: none), "
                + "and is CLOSE or not; it fits an element that has all of these.");
        for (int kind = 0; kind <= 7; kind += 7) {
            PinnaceView v = new PinnaceView();
            int element = v.addElement(0, kind);
            int name = kind == 0 ? 1 : 99;
            edges.same("any", fits(v, -1, -1, 0, element), true);
            edges.same("tag", fits(v, kind, -1, 0, element), true);
            edges.same("another tag", fits(v, 7 - kind, -1, 0, element), false);
            edges.same("a class that it has not", fits(v, -1, kind, 0, element), false);
            v.setClass(element, 7 - kind, true);
            edges.same("nor, if it has another", fits(v, -1, kind, 0, element), false);
            v.setClass(element, kind, true);
            edges.same("a class that it has", fits(v, -1, kind, 0, element), true);
            edges.same("a name that it has not", fits(v, -1, -1, name, element), false);
            v.setName(element, 50);
            edges.same("nor, if it has another", fits(v, -1, -1, name, element), false);
            v.setName(element, name);
            edges.same("its name", fits(v, -1, -1, name, element), true);
            edges.same("all three", fits(v, kind, kind, name, element), true);
            edges.same("all but the tag", fits(v, 3, kind, name, element), false);
            edges.same("all but the class", fits(v, kind, 3, name, element), false);
            edges.same("all but the name", fits(v, kind, kind, 3, element), false);
            edges.same("no name is asked for", fits(v, kind, kind, 0, element), true);
        }
    }

    private static boolean fits(PinnaceView v, int tag, int itsClass, int name, int element) {
        int rule = v.addRule(COLOR, 1, false);
        v.addPart(rule, tag, itsClass, name, false);
        return v.matches(rule, element);
    }

    private static int ruleOf(PinnaceView v, int firstTag, boolean firstClose, int lastTag, boolean lastClose) {
        int rule = v.addRule(COLOR, 1, false);
        v.addPart(rule, firstTag, -1, 0, firstClose);
        v.addPart(rule, lastTag, -1, 0, lastClose);
        return rule;
    }

    private void ancestors() {
        edges.terms(3, "A selector matches an element, if it has parts, the last one fits this element, and, if there is a "
                + "part ahead of that, this fits an ancestor of it (its parent, if the last one is CLOSE), "
                + "and the part ahead of that likewise, seen from there; for some choice of ancestors.");
        PinnaceView v = Scenes.DEEP.built();
        int any = ruleOf(v, -1, false, -1, false);
        edges.same("the root has no ancestor", v.matches(any, 0), false);
        edges.same("its child has one", v.matches(any, 1), true);
        edges.same("a text is no element", v.matches(any, Scenes.DEEP_TEXT), false);
        v.setName(0, 9);
        int farthest = v.addRule(COLOR, 1, false);
        v.addPart(farthest, -1, -1, 9, false);
        v.addPart(farthest, -1, -1, 0, false);
        edges.same("the tenth ancestor", v.matches(farthest, Scenes.DEEPEST), true);
        v.setName(0, 0);
        v.setName(Scenes.DEEPEST, 9);
        edges.same("not itself", v.matches(farthest, Scenes.DEEPEST), false);
        v.setName(Scenes.SINGLE, 9);
        edges.same("not one beside it", v.matches(farthest, Scenes.DEEPEST), false);
        int three = v.addRule(COLOR, 1, false);
        for (int i = 0; i < 3; i++) {
            v.addPart(three, 0, -1, 0, false);
        }
        edges.same("three need two ancestors", v.matches(three, 1), false);
        edges.same("these two", v.matches(three, 2), true);
        edges.same("so many have", v.matched(three), 9);
        v.move(2, 0, 0);
        edges.same("moved away from them", v.matches(three, 2), false);
    }

    private void closeOnes() {
        PinnaceView v = new PinnaceView();
        v.addElement(0, 1);
        v.addElement(1, 2);
        v.addElement(2, 3);
        edges.terms(3, "this fits an ancestor of it (its parent, if the last one is CLOSE)");
        edges.same("a parent", v.matches(ruleOf(v, 2, false, 3, true), 3), true);
        edges.same("the parent's parent", v.matches(ruleOf(v, 1, false, 3, true), 3), false);
        edges.same("the parent's parent, not CLOSE", v.matches(ruleOf(v, 1, false, 3, false), 3), true);
        edges.same("CLOSE of the first is for nothing", v.matches(ruleOf(v, 1, true, 3, false), 3), true);
        int rootAlone = v.addRule(COLOR, 1, false);
        v.addPart(rootAlone, 0, -1, 0, true);
        edges.same("one CLOSE part", v.matches(rootAlone, 0), true);
        edges.same("CLOSE, and no parent", v.matches(ruleOf(v, -1, false, 0, true), 0), false);
        int middle = v.addRule(COLOR, 1, false);
        v.addPart(middle, 0, -1, 0, false);
        v.addPart(middle, 2, -1, 0, true);
        v.addPart(middle, 3, -1, 0, false);
        edges.same("the middle one's parent is another", v.matches(middle, 3), false);
        edges.terms(3, "and the part ahead of that likewise, seen from there; for some choice of ancestors.");
        v.addElement(0, 2);
        v.move(1, 4, 0);
        edges.same("another choice: the farther one", v.matches(middle, 3), true);
        v.addElement(0, 0);
        v.move(4, 5, 0);
        edges.same("its parent is such a one", v.matches(middle, 3), true);
    }

    private void weights() {
        edges.terms(3, "Its weight is, of all its parts together, 100 for each name that is asked for, 10 for each class, "
                + "1 for each tag.");
        PinnaceView v = new PinnaceView();
        v.addRule(COLOR, 1, true);
        edges.same("no parts", v.weight(0), 0);
        int[][] parts = {{-1, -1, 0, 0}, {0, -1, 0, 1}, {7, -1, 0, 1}, {-1, 0, 0, 10}, {-1, 7, 0, 10}, {-1, -1, 1, 100},
            {-1, -1, 99, 100}, {0, 0, 1, 111}, {7, 7, 99, 111}, {7, 7, 0, 11}, {7, -1, 99, 101}, {-1, 7, 99, 110}};
        for (int[] part : parts) {
            int rule = v.addRule(COLOR, 1, false);
            for (int count = 1; count <= 3; count++) {
                v.addPart(rule, part[0], part[1], part[2], count == 2);
                edges.same("parts " + count, v.weight(rule), count * part[3]);
            }
        }
        edges.promise(23, "Returns its weight.");
        v.turn(1);
        edges.same("off, no less", v.weight(2), 3);
        edges.same("333", v.weight(8), 333);
    }

    private void matched() {
        edges.promise(25, "Returns how many elements that are not GONE its selector matches.");
        PinnaceView v = Scenes.FULL.built();
        edges.same("three parts, those with two ancestors", v.matched(0), 7);
        PinnaceView w = new PinnaceView();
        for (int i = 1; i < 40; i++) {
            w.addElement(0, 1);
        }
        int rule = ruleForAll(w, COLOR, 1, false);
        edges.same("40 of 40", w.matched(rule), 40);
        w.takeAway(39);
        edges.same("39, as one is gone", w.matched(rule), 39);
        w.turn(rule);
        edges.same("off, no less", w.matched(rule), 39);
        edges.same("no parts", w.matched(w.addRule(COLOR, 1, false)), 0);
        edges.promise(24, "Returns whether its selector matches it, the rule being on or off; false of a text.");
        edges.same("off", w.matches(rule, 0), true);
        PinnaceView x = new PinnaceView();
        ruleForAll(x, COLOR, 1, false);
        edges.same("a text", x.matches(0, x.addText(0)), false);
        edges.same("the root", x.matches(0, 0), true);
        edges.same("no text counts", x.matched(0), 1);
    }

    private void weightsDecide() {
        edges.terms(4, "of two rules the one with the greater weight, of the same weight the one with the greater number.");
        for (boolean isStrong : new boolean[] {false, true}) {
            PinnaceView v = new PinnaceView();
            v.addElement(0, 1);
            v.addElement(1, 1);
            v.setName(2, 9);
            v.setClass(2, 3, true);
            v.setClass(1, 3, true);
            edges.same("0", because(v, isStrong, -1, -1, 0), 0);
            edges.same("0 again, a greater number", because(v, isStrong, -1, -1, 0), 1);
            edges.same("1 is more than 0", because(v, isStrong, 1, -1, 0), 2);
            edges.same("0 is less than 1", because(v, isStrong, -1, -1, 0), 2);
            edges.same("10 is more than 1", because(v, isStrong, -1, 3, 0), 4);
            int tags = v.addRule(COLOR, 9, isStrong);
            v.addPart(tags, 0, -1, 0, false);
            v.addPart(tags, 1, -1, 0, false);
            v.addPart(tags, 1, -1, 0, false);
            edges.same("3 is less than 10", v.because(2, COLOR), 4);
            edges.same("10 again, a greater number", because(v, isStrong, -1, 3, 0), 6);
            edges.same("100 is more than 10", because(v, isStrong, -1, -1, 9), 7);
            edges.same("11 is less than 100", because(v, isStrong, 1, 3, 0), 7);
            edges.same("100 again, a greater number", because(v, isStrong, -1, -1, 9), 9);
            int both = v.addRule(COLOR, 9, isStrong);
            v.addPart(both, 1, 3, 0, false);
            v.addPart(both, 1, 3, 0, true);
            edges.same("22 is less than 100", v.because(2, COLOR), 9);
            v.turn(7);
            v.turn(9);
            edges.same("22 is more than 11", v.because(2, COLOR), both);
            v.turn(9);
            edges.same("101 is more than 100", because(v, isStrong, 1, -1, 9), 11);
        }
    }

    /** Adds a rule with one part, and tells why the deepest one has its COLOR. */
    private static int because(PinnaceView v, boolean isStrong, int tag, int itsClass, int name) {
        int rule = v.addRule(COLOR, 100 + v.rules(), isStrong);
        v.addPart(rule, tag, itsClass, name, false);
        return v.because(2, COLOR);
    }

    private void order() {
        edges.terms(4, "An element has of a property what is declared first in this order: by STRONG rules; "
                + "by the element itself; by other rules;");
        PinnaceView v = new PinnaceView();
        v.setName(0, 1);
        int heavy = v.addRule(MARGIN, 1, false);
        v.addPart(heavy, 0, -1, 1, false);
        edges.same("another rule", v.styleOf(0, MARGIN), 1);
        v.declare(0, MARGIN, 2);
        edges.same("the element itself", v.styleOf(0, MARGIN), 2);
        int light = ruleForAll(v, MARGIN, 3, true);
        edges.same("a STRONG rule of no weight", v.styleOf(0, MARGIN), 3);
        int last = v.addRule(MARGIN, 4, false);
        v.addPart(last, 0, -1, 1, false);
        edges.same("no heavier one that is not", v.styleOf(0, MARGIN), 3);
        v.turn(light);
        edges.same("the element itself again", v.styleOf(0, MARGIN), 2);
        v.declare(0, MARGIN, 9998);
        edges.same("the other rules again", v.styleOf(0, MARGIN), 4);
        v.declare(0, MARGIN, 0);
        edges.same("the FIRST value, but declared", v.styleOf(0, MARGIN), 0);
        edges.same("by itself", v.because(0, MARGIN), -1);
        v.declare(0, MARGIN, 9999);
        edges.same("9999 is declared, too", v.because(0, MARGIN), -1);
        edges.same("ahead of other rules", v.styleOf(0, MARGIN), 0);
        v.turn(light);
        edges.same("but behind STRONG ones", v.styleOf(0, MARGIN), 3);
        ruleForAll(v, MARGIN, 9999, true);
        edges.same("of which one can say 9999", v.styleOf(0, MARGIN), 0);
        edges.same("why", v.because(0, MARGIN), 3);
    }

    private void onlyOnesThatCount() {
        edges.terms(4, "only rules that are on and whose selector matches count;");
        PinnaceView v = new PinnaceView();
        v.addElement(0, 1);
        int strong = v.addRule(COLOR, 50, true);
        v.addPart(strong, 1, -1, 0, false);
        int plain = ruleForAll(v, COLOR, 60, false);
        edges.same("it matches", v.styleOf(1, COLOR), 50);
        edges.same("it does not", v.styleOf(0, COLOR), 60);
        v.turn(strong);
        edges.same("it is off", v.styleOf(1, COLOR), 60);
        v.turn(plain);
        edges.same("both are off", v.styleOf(1, COLOR), 0);
        edges.same("and so nothing declares it", v.because(0, COLOR), -3);
        v.turn(strong);
        edges.same("it is on again", v.because(1, COLOR), strong);
        edges.same("of other properties it says nothing", v.because(1, FONT), -2);
    }

    private void nothingDeclared() {
        edges.terms(4, "If nothing is declared, it has, if the property is INHERITED, what its parent has, otherwise the FIRST "
                + "value; with 9999 what its parent has; the root has the FIRST value in both cases.");
        for (int p = 0; p < PROPERTIES; p++) {
            boolean isInherited = p == COLOR || p == FONT || p == ALIGN;
            int value = FIRST[p] == GREATEST[p] ? LEAST[p] : GREATEST[p];
            PinnaceView v = Scenes.DEEP.built();
            v.declare(0, p, value);
            edges.same("ten levels of " + p, v.styleOf(Scenes.DEEPEST, p), isInherited ? value : FIRST[p]);
            v.declare(5, p, LEAST[p]);
            edges.same("the nearest of " + p, v.styleOf(Scenes.DEEPEST, p), isInherited ? LEAST[p] : FIRST[p]);
            edges.same("above it of " + p, v.styleOf(4, p), isInherited ? value : FIRST[p]);
            v.declare(0, p, 9999);
            edges.same("the root with 9999, of " + p, v.styleOf(0, p), FIRST[p]);
            v.declare(0, p, 9998);
            edges.same("the root with nothing, of " + p, v.styleOf(0, p), FIRST[p]);
        }
    }

    private void texts() {
        edges.terms(4, "A text has of an INHERITED property what its parent has, of others the FIRST value.");
        for (int p = 0; p < PROPERTIES; p++) {
            boolean isInherited = p == COLOR || p == FONT || p == ALIGN;
            int value = FIRST[p] == GREATEST[p] ? LEAST[p] : GREATEST[p];
            PinnaceView v = new PinnaceView();
            int text = v.addText(v.addElement(0, 1));
            ruleForAll(v, p, value, true);
            edges.same("of " + p, v.styleOf(text, p), isInherited ? value : FIRST[p]);
            edges.same("why, of " + p, v.because(text, p), isInherited ? -2 : -3);
            edges.same("its parent, of " + p, v.styleOf(1, p), value);
        }
    }

    private void because() {
        edges.promise(27, "Returns the rule that declares it first; -1 if that is the element itself; -2 if nothing declares it, "
                + "and it is from its parent; -3 if it is the FIRST value, as nothing declares it.");
        PinnaceView v = new PinnaceView();
        v.addElement(0, 1);
        for (int p = 0; p < PROPERTIES; p++) {
            boolean isInherited = p == COLOR || p == FONT || p == ALIGN;
            edges.same("the root, of " + p, v.because(0, p), -3);
            edges.same("nothing, of " + p, v.because(1, p), isInherited ? -2 : -3);
            v.declare(1, p, FIRST[p]);
            edges.same("itself, of " + p, v.because(1, p), -1);
        }
        for (int rule = 0; rule < 24; rule++) {
            ruleForAll(v, TOP, rule, true);
        }
        edges.same("rule 23", v.because(1, TOP), 23);
        for (int rule = 23; rule > 0; rule--) {
            v.turn(rule);
        }
        edges.same("rule 0", v.because(0, TOP), 0);
        edges.promise(26, "Returns what it has of that.");
        edges.same("of rule 0", v.styleOf(0, TOP), 0);
        v.turn(23);
        edges.same("of rule 23", v.styleOf(0, TOP), 23);
    }

    private void turn() {
        edges.promise(11, "Returns whether it is on then.");
        PinnaceView v = Scenes.FULL.built();
        for (int rule : new int[] {0, 23}) {
            edges.same("off", v.turn(rule), false);
            edges.same("on", v.turn(rule), true);
            edges.same("off again", v.turn(rule), false);
        }
    }

    private void declare() {
        edges.terms(3, "Each element can also declare a value for each property itself.");
        PinnaceView all = Scenes.DEEP.built();
        for (int p = 0; p < PROPERTIES; p++) {
            edges.same("the root, of " + p, all.declare(0, p, GREATEST[p]), 9998);
            edges.same("the deepest, of " + p, all.declare(Scenes.DEEPEST, p, LEAST[p]), 9998);
        }
        for (int p = 0; p < PROPERTIES; p++) {
            edges.same("all at once, the root's " + p, all.styleOf(0, p), GREATEST[p]);
            edges.same("all at once, the deepest's " + p, all.styleOf(Scenes.DEEPEST, p), LEAST[p]);
        }
        edges.promise(12, "Returns what it declared; 9998 if nothing.");
        for (int p = 0; p < PROPERTIES; p++) {
            PinnaceView v = new PinnaceView();
            edges.same("nothing", v.declare(0, p, 9998), 9998);
            edges.same("nothing still", v.declare(0, p, LEAST[p]), 9998);
            edges.same("the least", v.declare(0, p, GREATEST[p]), LEAST[p]);
            edges.same("the greatest", v.declare(0, p, 9999), GREATEST[p]);
            edges.same("9999", v.declare(0, p, 9998), 9999);
            edges.same("nothing again", v.declare(0, p, FIRST[p]), 9998);
            edges.same("another property is free of it", v.declare(0, (p + 1) % PROPERTIES, 9998), 9998);
        }
        PinnaceView v = new PinnaceView();
        ruleForAll(v, COLOR, 5, true);
        v.declare(0, COLOR, 6);
        edges.same("what it declared, not what it has", v.declare(0, COLOR, 7), 6);
    }

    private void viewAndOffset() {
        PinnaceView v = new PinnaceView();
        edges.promise(13, "Returns how wide it was.");
        edges.same("400 at first", v.setView(20), 400);
        edges.same("the least", v.setView(2000), 20);
        edges.same("the root is so wide", v.wideOf(0), 2000);
        edges.same("the greatest", v.setView(20), 2000);
        edges.same("the root is so narrow", v.wideOf(0), 20);
        edges.promise(14, "Returns its OFFSET before.");
        edges.same("0 at first", v.scroll(0, 5000), 0);
        edges.same("the greatest", v.scroll(0, 0), 5000);
        edges.same("the least", v.scroll(0, 1), 0);
        v.declare(0, SCROLL, 1);
        edges.same("the OFFSET, not by how much it is moved", v.scrolled(0), 0);
        edges.same("the OFFSET stays", v.scroll(0, 0), 1);
    }
}
