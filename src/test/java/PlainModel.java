import java.util.ArrayList;
import java.util.HashMap;
import java.util.HashSet;
import java.util.LinkedHashMap;
import java.util.List;
import java.util.Map;
import java.util.Set;

/**
 * The document once more, in another and slower way: nothing is kept but what was told, floats are
 * sought pixel by pixel, the flow of a box is written out as a list. RandomTest compares with it.
 */
final class PlainModel {
    static final int[] LOW = {0, -1, -1, 0, 0, 0, 0, 0, 0, 1, 0, 0, -500, -500};
    static final int[] HIGH = {2, 1000, 1000, 100, 100, 20, 2, 3, 255, 40, 2, 1, 500, 500};
    static final int[] FIRST = {1, -1, -1, 0, 0, 0, 0, 0, 0, 8, 0, 0, 0, 0};

    static final class Item {
        int number;
        boolean text;
        int tag;
        int name;
        int offset;
        boolean gone;
        Item parent;
        Set<Integer> classes = new HashSet<>();
        List<Item> kids = new ArrayList<>();
        List<Integer> words = new ArrayList<>();
        Map<Integer, Integer> own = new HashMap<>();

        List<Item> ancestors() {
            List<Item> all = new ArrayList<>();
            for (Item up = parent; up != null; up = up.parent) {
                all.add(up);
            }
            return all;
        }

        List<Item> subtree() {
            List<Item> all = new ArrayList<>();
            all.add(this);
            for (Item kid : kids) {
                all.addAll(kid.subtree());
            }
            return all;
        }
    }

    record Part(int tag, int itsClass, int name, boolean close) {
        boolean fits(Item e) {
            return (tag < 0 || e.tag == tag) && (itsClass < 0 || e.classes.contains(itsClass))
                    && (name == 0 || e.name == name);
        }
    }

    static final class Law {
        int property;
        int value;
        boolean strong;
        boolean on = true;
        List<Part> parts = new ArrayList<>();

        int weight() {
            return parts.stream().mapToInt(p -> (p.name != 0 ? 100 : 0) + (p.itsClass >= 0 ? 10 : 0)
                    + (p.tag >= 0 ? 1 : 0)).sum();
        }

        boolean matches(Item e) {
            if (e.text || parts.isEmpty()) {
                return false;
            }
            Set<Item> candidates = new HashSet<>();
            candidates.add(e);
            for (int i = parts.size() - 1; i >= 0; i--) {
                Part part = parts.get(i);
                candidates.removeIf(c -> !part.fits(c));
                if (i > 0) {
                    Set<Item> above = new HashSet<>();
                    for (Item c : candidates) {
                        List<Item> ups = c.ancestors();
                        above.addAll(part.close ? ups.subList(0, Math.min(1, ups.size())) : ups);
                    }
                    candidates = above;
                }
            }
            return !candidates.isEmpty();
        }
    }

    List<Item> items = new ArrayList<>();
    List<Law> laws = new ArrayList<>();
    int view = 400;

    PlainModel() {
        items.add(new Item());
    }

    Item item(int n) {
        if (n < 0 || n >= items.size() || items.get(n).gone) {
            throw new IndexOutOfBoundsException();
        }
        return items.get(n);
    }

    Law law(int n) {
        if (n < 0 || n >= laws.size()) {
            throw new IndexOutOfBoundsException();
        }
        return laws.get(n);
    }

    static void refuseIf(boolean wrong) {
        if (wrong) {
            throw new IllegalArgumentException();
        }
    }

    static void stopIf(boolean full) {
        if (full) {
            throw new IllegalStateException();
        }
    }

    static void outIf(boolean out) {
        if (out) {
            throw new IndexOutOfBoundsException();
        }
    }

    int add(int parent, boolean text, int tag) {
        Item above = item(parent);
        refuseIf(above.text || tag < 0 || tag > 7);
        stopIf(items.size() == 40 || above.ancestors().size() == 10);
        Item it = new Item();
        it.number = items.size();
        it.text = text;
        it.tag = tag;
        it.parent = above;
        above.kids.add(it);
        items.add(it);
        return it.number;
    }

    int addWord(int text, int letters) {
        Item it = item(text);
        refuseIf(!it.text || letters < 1 || letters > 12);
        stopIf(it.words.size() == 20);
        it.words.add(letters);
        return it.words.size();
    }

    int takeAway(int node) {
        Item it = item(node);
        refuseIf(it.parent == null);
        it.parent.kids.remove(it);
        it.subtree().forEach(x -> x.gone = true);
        return it.subtree().size();
    }

    int move(int node, int parent, int place) {
        Item it = item(node);
        Item to = item(parent);
        refuseIf(it.parent == null || to.text || it.subtree().contains(to));
        List<Item> others = new ArrayList<>(to.kids);
        others.remove(it);
        refuseIf(place < 0 || place > others.size());
        int deepest = 0;
        for (Item x : it.subtree()) {
            deepest = Math.max(deepest, x.ancestors().size() - it.ancestors().size());
        }
        refuseIf(to.ancestors().size() + 1 + deepest > 10);
        it.parent.kids.remove(it);
        to.kids.add(place, it);
        it.parent = to;
        return to.kids.size();
    }

    boolean setClass(int element, int c, boolean has) {
        Item it = item(element);
        refuseIf(it.text || c < 0 || c > 7);
        boolean had = it.classes.contains(c);
        if (has) {
            it.classes.add(c);
        } else {
            it.classes.remove(c);
        }
        return had;
    }

    int setName(int element, int name) {
        Item it = item(element);
        refuseIf(it.text || name < 0 || name > 99);
        int before = it.name;
        it.name = name;
        return before;
    }

    int addRule(int property, int value, boolean strong) {
        outIf(property < 0 || property > 13);
        refuseIf(value != 9999 && (value < LOW[property] || value > HIGH[property]));
        stopIf(laws.size() == 24);
        Law law = new Law();
        law.property = property;
        law.value = value;
        law.strong = strong;
        laws.add(law);
        return laws.size() - 1;
    }

    int addPart(int rule, int tag, int c, int name, boolean close) {
        Law law = law(rule);
        refuseIf(tag < -1 || tag > 7 || c < -1 || c > 7 || name < 0 || name > 99);
        stopIf(law.parts.size() == 3);
        law.parts.add(new Part(tag, c, name, close));
        return law.parts.size();
    }

    boolean turn(int rule) {
        Law law = law(rule);
        law.on = !law.on;
        return law.on;
    }

    int declare(int element, int property, int value) {
        Item it = item(element);
        outIf(property < 0 || property > 13);
        boolean special = value == 9998 || value == 9999;
        refuseIf(it.text || !special && (value < LOW[property] || value > HIGH[property]));
        Integer before = value == 9998 ? it.own.remove(property) : it.own.put(property, value);
        return before == null ? 9998 : before;
    }

    int setView(int width) {
        refuseIf(width < 20 || width > 2000);
        int before = view;
        view = width;
        return before;
    }

    int scroll(int element, int offset) {
        Item it = item(element);
        refuseIf(it.text || offset < 0 || offset > 5000);
        int before = it.offset;
        it.offset = offset;
        return before;
    }

    int because(Item it, int property) {
        int best = -1;
        for (int pass = 0; pass < 2; pass++) {
            for (int i = 0; i < laws.size(); i++) {
                Law law = laws.get(i);
                if (law.strong == (pass == 0) && law.property == property && law.on && law.matches(it)
                        && (best < 0 || law.weight() >= laws.get(best).weight())) {
                    best = i;
                }
            }
            if (best >= 0) {
                return best;
            }
            if (it.own.containsKey(property)) {
                return -1;
            }
        }
        return property >= 8 && property <= 10 && it.parent != null ? -2 : -3;
    }

    int style(Item it, int property) {
        int why = because(it, property);
        int value = why >= 0 ? laws.get(why).value : why == -1 ? it.own.get(property) : why == -2 ? 9999 : FIRST[property];
        if (value != 9999) {
            return value;
        }
        return it.parent == null ? FIRST[property] : style(it.parent, property);
    }

    int sort(Item it) {
        if (it.parent == null) {
            return 3;
        }
        List<Item> line = it.ancestors();
        line.add(it);
        for (Item x : line) {
            if (x.parent != null && !x.text && style(x, 0) == 0) {
                return 0;
            }
        }
        return it.text ? 1 : style(it, 6) != 0 ? 4 : style(it, 0) == 1 ? 3 : 2;
    }

    /** What all properties would come to, node by node, if the rule were turned. */
    int changedBy(int rule) {
        Law law = law(rule);
        int count = 0;
        for (Item it : items) {
            if (it.gone) {
                continue;
            }
            boolean other = false;
            for (int p = 0; p < 14; p++) {
                int now = style(it, p);
                law.on = !law.on;
                other |= style(it, p) != now;
                law.on = !law.on;
            }
            count += other ? 1 : 0;
        }
        return count;
    }

    /** All that is laid out, for one width of the view. */
    final class Picture {
        final class Box {
            Item item;
            int x;
            int y;
            int wide;
            int high;
            int reach;
            int lines;
            boolean room;
            List<Floating> floats;
            List<Floating> inner;
            int dx;
            int dy;
            int up;
        }

        record Floating(int side, int left, int right, int top, int bottom) {
            boolean at(int y) {
                return top <= y && y < bottom;
            }
        }

        final class Word {
            Item text;
            int wide;
            int font;
            int x;
            int y;
        }

        final Map<Item, Box> boxes = new LinkedHashMap<>();
        final Map<Item, List<Word>> words = new LinkedHashMap<>();
        final Map<Item, int[]> styles = new HashMap<>();
        final Map<Item, Integer> sorts = new HashMap<>();
        final List<Integer> lineWidths = new ArrayList<>();
        int pageHeight;

        Picture(int width) {
            for (Item it : items.get(0).subtree()) {
                int[] all = new int[14];
                for (int p = 0; p < 14; p++) {
                    all[p] = style(it, p);
                }
                styles.put(it, all);
                sorts.put(it, sort(it));
            }
            Item root = items.get(0);
            Box box = new Box();
            box.item = root;
            box.room = true;
            box.inner = new ArrayList<>();
            int edge = edge(root);
            box.x = edge;
            box.y = edge;
            box.wide = get(root, 1) >= 0 ? get(root, 1) : Math.max(0, width - 2 * edge);
            content(box);
            pageHeight = edge + box.high + edge;
            moveAll();
        }

        int get(Item it, int property) {
            return styles.get(it)[property];
        }

        int inset(Item it) {
            return get(it, 4) + get(it, 5);
        }

        int edge(Item it) {
            return get(it, 3) + inset(it);
        }

        List<Item> flow(Item it) {
            List<Item> all = new ArrayList<>();
            for (Item kid : it.kids) {
                int sort = sorts.get(kid);
                if (sort == 2) {
                    all.addAll(flow(kid));
                } else if (sort != 0) {
                    all.add(kid);
                }
            }
            return all;
        }

        List<Word> wordsOf(Item text) {
            List<Word> all = new ArrayList<>();
            for (int letters : text.words) {
                Word word = new Word();
                word.text = text;
                word.font = get(text, 9);
                word.wide = letters * word.font;
                all.add(word);
            }
            return all;
        }

        int lineWidth(List<Word> line) {
            int wide = 0;
            for (int i = 0; i < line.size(); i++) {
                wide += line.get(i).wide + (i + 1 < line.size() ? line.get(i).font : 0);
            }
            return wide;
        }

        int wish(Item it) {
            int best = 0;
            List<Word> run = new ArrayList<>();
            for (Item child : flow(it)) {
                if (child.text) {
                    run.addAll(wordsOf(child));
                    best = Math.max(best, lineWidth(run));
                } else {
                    run.clear();
                    int own = get(child, 1) >= 0 ? get(child, 1) : wish(child);
                    best = Math.max(best, own + 2 * edge(child));
                }
            }
            return best;
        }

        int lowest(List<Floating> floats, int clear) {
            int low = Integer.MIN_VALUE;
            for (Floating f : floats) {
                if (clear == 3 || clear != 0 && f.side == clear) {
                    low = Math.max(low, f.bottom);
                }
            }
            return low;
        }

        int[] span(Box box, int y) {
            int from = box.x;
            int to = box.x + box.wide;
            int any = 0;
            for (Floating f : box.inner) {
                if (f.at(y)) {
                    any = 1;
                    if (f.side == 1 && f.right > from) {
                        from = f.right;
                    }
                    if (f.side == 2 && f.left < to) {
                        to = f.left;
                    }
                }
            }
            return new int[] {from, to, any};
        }

        void content(Box box) {
            boxes.put(box.item, box);
            int cursor = box.y;
            int gap = 0;
            List<Word> wait = new ArrayList<>();
            for (Item child : flow(box.item)) {
                if (child.text) {
                    words.put(child, wordsOf(child));
                    wait.addAll(words.get(child));
                    continue;
                }
                if (!wait.isEmpty()) {
                    cursor = putLines(box, wait, cursor);
                    gap = 0;
                }
                Box inner = new Box();
                inner.item = child;
                if (sorts.get(child) == 4) {
                    putFloat(box, inner, cursor);
                    continue;
                }
                int margin = get(child, 3);
                if (margin > gap) {
                    cursor += margin - gap;
                }
                cursor = Math.max(cursor, lowest(box.inner, get(child, 7)));
                inner.x = box.x + edge(child);
                inner.y = cursor + inset(child);
                inner.wide = get(child, 1) >= 0 ? get(child, 1) : Math.max(0, box.wide - 2 * edge(child));
                inner.room = get(child, 11) == 1;
                inner.inner = inner.room ? new ArrayList<>() : box.inner;
                content(inner);
                cursor += inner.high + 2 * inset(child) + margin;
                gap = margin;
            }
            if (!wait.isEmpty()) {
                cursor = putLines(box, wait, cursor);
            }
            int end = box.room ? Math.max(cursor, lowest(box.inner, 3)) : cursor;
            box.reach = end - box.y;
            box.high = get(box.item, 2) >= 0 ? get(box.item, 2) : box.reach;
        }

        void putFloat(Box around, Box box, int cursor) {
            Item it = box.item;
            int edge = edge(it);
            box.room = true;
            box.inner = new ArrayList<>();
            box.wide = get(it, 1) >= 0 ? get(it, 1) : Math.max(0, Math.min(wish(it), around.wide - 2 * edge));
            int outer = box.wide + 2 * edge;
            int y = Math.max(cursor, lowest(around.inner, get(it, 7)));
            for (Floating f : around.inner) {
                y = Math.max(y, f.top);
            }
            int[] span = span(around, y);
            while (outer > span[1] - span[0] && span[2] == 1) {
                y++;
                span = span(around, y);
            }
            int x = get(it, 6) == 1 ? span[0] : span[1] - outer;
            box.x = x + edge;
            box.y = y + edge;
            content(box);
            around.inner.add(new Floating(get(it, 6), x, x + outer, y, y + box.high + 2 * edge));
        }

        int putLines(Box box, List<Word> wait, int from) {
            int cursor = from;
            while (!wait.isEmpty()) {
                int[] span = span(box, cursor);
                int room = span[1] - span[0];
                int take = wait.size();
                while (take > 0 && lineWidth(wait.subList(0, take)) > room) {
                    take--;
                }
                if (take == 0 && span[2] == 1) {
                    int next = Integer.MAX_VALUE;
                    for (Floating f : box.inner) {
                        next = f.at(cursor) ? Math.min(next, f.bottom) : next;
                    }
                    cursor = next;
                    continue;
                }
                List<Word> line = wait.subList(0, Math.max(1, take));
                int wide = lineWidth(line);
                int more = Math.max(0, room - wide);
                int x = span[0] + new int[] {0, more / 2, more}[get(box.item, 10)];
                int high = 0;
                for (Word word : line) {
                    word.x = x;
                    word.y = cursor;
                    x += word.wide + word.font;
                    high = Math.max(high, 2 * word.font);
                }
                lineWidths.add(wide);
                box.lines++;
                cursor += high;
                line.clear();
            }
            return cursor;
        }

        void moveAll() {
            for (Box box : boxes.values()) {
                if (get(box.item, 11) == 1) {
                    box.up = Math.max(0, Math.min(box.item.offset, box.reach - box.high));
                }
            }
            for (Box box : boxes.values()) {
                for (Item it : box.item.subtree()) {
                    shift(it, get(box.item, 12), get(box.item, 13) - (it == box.item ? 0 : box.up));
                }
            }
        }

        void shift(Item it, int dx, int dy) {
            Box box = boxes.get(it);
            if (box != null) {
                box.dx += dx;
                box.dy += dy;
            }
            for (Word word : words.getOrDefault(it, List.of())) {
                word.x += dx;
                word.y += dy;
            }
        }

        int x(Box box) {
            return box.x - inset(box.item) + box.dx;
        }

        int y(Box box) {
            return box.y - inset(box.item) + box.dy;
        }

        boolean cut(Item it, int x, int y) {
            for (Item up : it.ancestors()) {
                Box box = boxes.get(up);
                if (box != null && get(up, 11) == 1
                        && !in(x, y, box.x + box.dx, box.y + box.dy, box.wide, box.high)) {
                    return true;
                }
            }
            return false;
        }

        boolean in(int x, int y, int left, int top, int wide, int high) {
            return x >= left && x < left + wide && y >= top && y < top + high;
        }

        int hit(int x, int y) {
            int found = -1;
            for (Item it : items.get(0).subtree()) {
                boolean there = false;
                Box box = boxes.get(it);
                if (box != null) {
                    int more = 2 * inset(it);
                    there = in(x, y, x(box), y(box), box.wide + more, box.high + more);
                }
                for (Word word : words.getOrDefault(it, List.of())) {
                    there |= in(x, y, word.x, word.y, word.wide, 2 * word.font);
                }
                if (there && !cut(it, x, y)) {
                    found = it.number;
                }
            }
            return found;
        }

        int seen(Item it) {
            int count = 0;
            for (Word word : words.getOrDefault(it, List.of())) {
                count += cut(it, word.x, word.y) ? 0 : 1;
            }
            return count;
        }

        double meanLine() {
            long sum = 0;
            for (int wide : lineWidths) {
                sum += wide;
            }
            return lineWidths.isEmpty() ? 0 : sum / (double) lineWidths.size();
        }
    }

    long digest() {
        Picture picture = new Picture(view);
        List<Long> all = new ArrayList<>();
        all.add((long) items.size());
        all.add(items.stream().filter(i -> !i.gone).count());
        all.add((long) laws.size());
        all.add((long) picture.pageHeight);
        for (Item it : items) {
            if (it.gone) {
                continue;
            }
            Picture.Box box = picture.boxes.get(it);
            all.add((long) it.number);
            all.add(it.text ? 1L : 0L);
            all.add(it.parent == null ? -1L : it.parent.number);
            all.add((long) (it.text ? it.words.size() : it.kids.size()));
            all.add((long) picture.sorts.get(it));
            all.add(box == null ? -9999L : picture.x(box));
            all.add(box == null ? -9999L : picture.y(box));
            all.add(box == null ? -1L : box.wide + 2 * picture.inset(it));
            all.add(box == null ? -1L : box.high + 2 * picture.inset(it));
            all.add(box == null ? -1L : box.reach);
            all.add(box == null ? 0L : box.up);
            all.add(box == null ? 0L : box.lines);
            for (int p = 0; p < 14; p++) {
                all.add((long) picture.get(it, p));
            }
            if (it.text) {
                for (int w = 0; w < it.words.size(); w++) {
                    Picture.Word word = picture.words.containsKey(it) ? picture.words.get(it).get(w) : null;
                    all.add(word == null ? -9999L : word.x);
                    all.add(word == null ? -9999L : word.y);
                }
                all.add((long) picture.seen(it));
            }
        }
        for (Law law : laws) {
            all.add((long) law.weight());
            all.add(items.stream().filter(i -> !i.gone && law.matches(i)).count());
        }
        long d = 58030;
        for (long x : all) {
            d = d * 31 + x;
        }
        return d;
    }
}
