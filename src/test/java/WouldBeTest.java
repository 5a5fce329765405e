/** Promises 42 to 44: what would be. */
public final class WouldBeTest {
    private static final Checker CHECK = new Checker("WouldBeTest");

    private WouldBeTest() {
    }

    public static void main(String[] args) {
        heightIn();
        changedBy();
        digestOfNew();
        digestOfAll();
        CHECK.end();
    }

    private static void heightIn() {
        PinnaceView v = new PinnaceView();
        int text = v.addText(0);
        for (int i = 0; i < 4; i++) {
            v.addWord(text, 5);
        }
        CHECK.same("42 as it is", v.pageHeight(), 16);
        CHECK.same("42 two a line", v.heightIn(88), 32);
        CHECK.same("42 one a line", v.heightIn(87), 64);
        CHECK.same("42 the least width", v.heightIn(20), 64);
        CHECK.same("42 the greatest width", v.heightIn(2000), 16);
        CHECK.same("42 nothing is changed", v.pageHeight(), 16);
        CHECK.same("42 no word either", v.wordY(text, 3), 0);
        CHECK.same("42 nor the view", v.setView(88), 400);
        CHECK.same("42 as it would be", v.pageHeight(), 32);
        v.declare(0, 1, 400);
        CHECK.same("42 a width that is declared", v.heightIn(20), 16);
    }

    private static void changedBy() {
        PinnaceView v = new PinnaceView();
        v.addElement(0, 1);
        v.addElement(1, 2);
        v.addText(2);
        v.addElement(1, 2);
        v.addRule(9, 20, false);
        v.addRule(3, 20, false);
        CHECK.same("43 a rule without parts", v.changedBy(0), 0);
        v.addPart(0, 1, -1, 0, false);
        CHECK.same("43 with what inherits it", v.changedBy(0), 4);
        v.declare(4, 9, 20);
        CHECK.same("43 less what has it anyway", v.changedBy(0), 3);
        v.addPart(1, -1, -1, 0, false);
        CHECK.same("43 no text, if it is not inherited", v.changedBy(1), 4);
        v.turn(1);
        CHECK.same("43 as much, being off", v.changedBy(1), 4);
        CHECK.same("43 it stays off", v.styleOf(0, 3), 0);
        CHECK.same("43 nor does it count", v.because(0, 3), -3);
        v.takeAway(4);
        CHECK.same("43 gone ones do not count", v.changedBy(1), 3);
        v.addRule(9, 20, false);
        v.addPart(2, 1, -1, 0, false);
        CHECK.same("43 another reason is not another style", v.changedBy(2), 0);
    }

    private static void digestOfNew() {
        PinnaceView v = new PinnaceView();
        long[] due = {1, 1, 0, 0,
            0, 0, -1, 0, 3, 0, 0, 400, 0, 0, 0, 0,
            1, -1, -1, 0, 0, 0, 0, 0, 0, 8, 0, 0, 0, 0};
        CHECK.same("44 a new one", v.digest(), sumOf(due));
    }

    private static void digestOfAll() {
        PinnaceView v = new PinnaceView();
        v.addElement(0, 1);
        v.addText(0);
        v.addWord(2, 2);
        v.addWord(2, 3);
        v.takeAway(1);
        v.addRule(5, 1, false);
        v.addPart(0, -1, 2, 0, false);
        v.addRule(9, 10, false);
        v.addPart(1, 0, -1, 0, false);
        long[] due = {3, 2, 2, 20,
            0, 0, -1, 1, 3, 0, 0, 400, 20, 20, 0, 1,
            1, -1, -1, 0, 0, 0, 0, 0, 0, 10, 0, 0, 0, 0,
            2, 1, 0, 2, 1, -9999, -9999, -1, -1, -1, 0, 0,
            1, -1, -1, 0, 0, 0, 0, 0, 0, 10, 0, 0, 0, 0,
            0, 0, 30, 0, 2,
            10, 0, 1, 1};
        CHECK.same("44 number by number", v.digest(), sumOf(due));
        CHECK.same("44 once more", v.digest(), sumOf(due));
    }

    private static long sumOf(long[] numbers) {
        long sum = 58030;
        for (long x : numbers) {
            sum = sum * 31 + x;
        }
        return sum;
    }
}
