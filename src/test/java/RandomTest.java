import java.util.Random;

/** Runs of calls that are drawn (always the same ones), answered by PinnaceView and by PlainModel. */
public final class RandomTest {
    private static final int OBJECTS = 1000;
    /** What an object answers after so many calls is free. */
    private static final int CALLS = 512;
    private final Checker checker;
    private final Random random;
    private final PinnaceView view = new PinnaceView();
    private final PlainModel model = new PlainModel();
    /** 0 a wild one; else one with small numbers, so that much meets in little room. */
    private final int kind;
    /** Whether most is put into what was added last. */
    private final boolean isDeep;
    private int calls = 0;

    private RandomTest(Checker checker, int seed) {
        this.checker = checker;
        random = new Random(seed);
        kind = seed % 4;
        isDeep = seed % 5 == 0;
    }

    public static void main(String[] args) {
        Checker checker = new Checker("RandomTest");
        for (int seed = 0; seed < OBJECTS; seed++) {
            new RandomTest(checker, seed).run(seed);
        }
        checker.end();
    }

    private interface Asked {
        Object get();
    }

    private static Object answer(Asked asked) {
        try {
            return asked.get();
        } catch (IndexOutOfBoundsException | IllegalArgumentException | IllegalStateException e) {
            boolean isOwn = Checker.isThrownBy("PinnaceView", e) || Checker.isThrownBy("PlainModel", e);
            return "throws." + e.getClass().getSimpleName() + (isOwn ? "" : " by the machine");
        }
    }

    /** Leaves the last call of an object to the digest at the end. */
    private void both(String what, Asked ours, Asked models) {
        if (calls < CALLS - 1) {
            calls++;
            checker.same("call " + calls + " of " + what, answer(ours), answer(models));
        }
    }

    private void bothDigests(String what) {
        both(what + "digest", view::digest, model::digest);
    }

    private void run(int seed) {
        String what = "seed " + seed + " ";
        while (calls < CALLS - 1) {
            if (calls < 25 && random.nextInt(3) > 0) {
                grow(what);
            } else if (random.nextInt(4) == 0) {
                change(what);
            } else if (random.nextInt(3) == 0) {
                style(what);
            } else {
                ask(what);
            }
            if (random.nextInt(8) == 0) {
                bothDigests(what);
            }
        }
        checker.same("call " + CALLS + " of " + what + "digest", view.digest(), model.digest());
    }

    private int upTo(int bound) {
        return random.nextInt(bound + 1);
    }

    private int node() {
        int added = model.items.size();
        if (random.nextInt(40) == 0) {
            return new int[] {-1, added, Integer.MIN_VALUE, Integer.MAX_VALUE}[upTo(3)];
        }
        return random.nextInt(added);
    }

    /** Elements mostly, as most calls are for these. */
    private int element() {
        int last = model.items.size() - 1;
        while (last > 0 && (model.items.get(last).gone || model.items.get(last).text)) {
            last--;
        }
        if (isDeep && random.nextInt(3) > 0) {
            return last;
        }
        for (int i = 0; i < 6; i++) {
            int number = node();
            if (number >= 0 && number < model.items.size() && !model.items.get(number).gone
                    && !model.items.get(number).text) {
                return number;
            }
        }
        return node();
    }

    private int text() {
        for (int i = 0; i < 12; i++) {
            int number = node();
            if (number >= 0 && number < model.items.size() && !model.items.get(number).gone
                    && model.items.get(number).text) {
                return number;
            }
        }
        return node();
    }

    private int rule() {
        int rules = model.laws.size();
        return rules == 0 || random.nextInt(30) == 0 ? upTo(rules + 1) - 1 : random.nextInt(rules);
    }

    private int property() {
        if (random.nextInt(60) == 0) {
            return random.nextBoolean() ? -1 : 14;
        }
        int[] often = {0, 1, 2, 3, 6, 6, 6, 7, 9, 10, 11};
        return random.nextInt(3) > 0 ? often[random.nextInt(often.length)] : random.nextInt(14);
    }

    private int value(int property) {
        if (property < 0 || property > 13 || random.nextInt(30) == 0) {
            return upTo(1200) - 100;
        }
        int low = PlainModel.LOW[property];
        int high = PlainModel.HIGH[property];
        int draw = random.nextInt(20);
        if (draw < 4) {
            return new int[] {9999, 9998, low, high}[draw];
        }
        if (kind == 0) {
            return low + random.nextInt(high - low + 1);
        }
        switch (property) {
            case 0: return 1 + random.nextInt(2);
            case 1: case 2: return random.nextInt(3) == 0 ? -1 : upTo(60 * kind);
            case 3: case 4: case 5: return upTo(4 * kind);
            case 9: return 1 + upTo(5 * kind);
            case 12: case 13: return upTo(40) - 20;
            default: return low + random.nextInt(high - low + 1);
        }
    }

    private void grow(String what) {
        int parent = element();
        if (random.nextInt(3) == 0) {
            both(what + "addText " + parent, () -> view.addText(parent), () -> model.add(parent, true, 0));
        } else if (random.nextInt(3) == 0) {
            int tag = upTo(4);
            both(what + "addElement", () -> view.addElement(parent, tag), () -> model.add(parent, false, tag));
        } else {
            int text = text();
            int letters = 1 + upTo(11);
            both(what + "addWord", () -> view.addWord(text, letters), () -> model.addWord(text, letters));
        }
    }

    private void change(String what) {
        int node = node();
        int element = element();
        int number = upTo(random.nextInt(10) == 0 ? 101 : 3) - (random.nextInt(20) == 0 ? 1 : 0);
        boolean has = random.nextInt(3) > 0;
        switch (upTo(11)) {
            case 0: case 1: case 2:
                both(what + "move", () -> view.move(node, element, number), () -> model.move(node, element, number));
                break;
            case 3:
                if (random.nextInt(4) == 0) {
                    both(what + "takeAway", () -> view.takeAway(node), () -> model.takeAway(node));
                }
                break;
            case 4:
                both(what + "setClass", () -> view.setClass(element, number, has),
                        () -> model.setClass(element, number, has));
                break;
            case 5:
                both(what + "setName", () -> view.setName(element, number), () -> model.setName(element, number));
                break;
            case 6:
                int width = kind == 0 ? upTo(2100) : 20 + upTo(100 * kind);
                both(what + "setView", () -> view.setView(width), () -> model.setView(width));
                break;
            case 7:
                int offset = random.nextInt(5) == 0 ? upTo(5100) : upTo(40) - 1;
                both(what + "scroll", () -> view.scroll(element, offset), () -> model.scroll(element, offset));
                break;
            case 8:
                int parent = node();
                int tag = upTo(9) - 1;
                both(what + "addElement", () -> view.addElement(parent, tag), () -> model.add(parent, false, tag));
                break;
            default:
                grow(what);
                break;
        }
    }

    private void style(String what) {
        int property = property();
        int value = value(property);
        boolean flag = random.nextInt(3) == 0;
        int element = element();
        int rule = rule();
        switch (upTo(9)) {
            case 0:
                both(what + "addRule", () -> view.addRule(property, value, flag),
                        () -> model.addRule(property, value, flag));
                break;
            case 1: case 2:
                int tag = upTo(5) - 1;
                int itsClass = random.nextInt(3) == 0 ? upTo(3) - 1 : -1;
                int name = random.nextInt(4) == 0 ? upTo(2) : 0;
                both(what + "addPart", () -> view.addPart(rule, tag, itsClass, name, flag),
                        () -> model.addPart(rule, tag, itsClass, name, flag));
                break;
            case 3:
                int far = upTo(10) - 2;
                both(what + "addPart", () -> view.addPart(rule, far, far, far * 13, flag),
                        () -> model.addPart(rule, far, far, far * 13, flag));
                break;
            case 4:
                both(what + "turn", () -> view.turn(rule), () -> model.turn(rule));
                break;
            default:
                both(what + "declare", () -> view.declare(element, property, value),
                        () -> model.declare(element, property, value));
                break;
        }
    }

    private void ask(String what) {
        int rule = rule();
        int node = node();
        int property = property();
        int width = kind == 0 ? upTo(2100) : 15 + upTo(200 * kind);
        switch (upTo(7)) {
            case 0:
                both(what + "matches", () -> view.matches(rule, node),
                        () -> model.law(rule).matches(model.item(node)));
                break;
            case 1:
                both(what + "because", () -> view.because(node, property), () -> {
                    PlainModel.Item item = model.item(node);
                    PlainModel.outIf(property < 0 || property > 13);
                    return model.because(item, property);
                });
                break;
            case 2:
                both(what + "heightIn " + width, () -> view.heightIn(width), () -> {
                    PlainModel.refuseIf(width < 20 || width > 2000);
                    return model.new Picture(width).pageHeight;
                });
                break;
            case 3:
                both(what + "changedBy", () -> view.changedBy(rule), () -> model.changedBy(rule));
                break;
            case 4:
                both(what + "meanLine", view::meanLine, () -> model.new Picture(model.view).meanLine());
                break;
            default:
                hits(what);
                break;
        }
    }

    private void hits(String what) {
        PlainModel.Picture picture = model.new Picture(model.view);
        for (int i = 0; i < 3; i++) {
            int x = upTo(model.view + 40) - 20;
            int y = upTo(Math.min(2000, picture.pageHeight) + 40) - 20;
            both(what + "hit " + x + " " + y, () -> view.hit(x, y), () -> picture.hit(x, y));
        }
        for (PlainModel.Item item : picture.words.keySet()) {
            if (random.nextInt(3) == 0) {
                both(what + "seen", () -> view.seen(item.number), () -> picture.seen(item));
            }
            for (PlainModel.Picture.Word word : picture.words.get(item)) {
                if (random.nextInt(15) == 0) {
                    int x = word.x + word.wide - upTo(1);
                    int y = word.y + 2 * word.font - upTo(1);
                    both(what + "hit at a word", () -> view.hit(x, y), () -> picture.hit(x, y));
                }
            }
        }
        for (PlainModel.Picture.Box box : picture.boxes.values()) {
            if (random.nextInt(6) == 0) {
                int x = picture.x(box) - upTo(1);
                int y = picture.y(box) - upTo(1);
                both(what + "hit at a corner", () -> view.hit(x, y), () -> picture.hit(x, y));
            }
        }
    }
}
