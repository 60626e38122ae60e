import java.util.ArrayDeque;
import java.util.ArrayList;
import java.util.Comparator;
import java.util.Deque;
import java.util.List;
import java.util.Random;
import java.util.TreeMap;
import java.util.regex.Matcher;
import java.util.regex.Pattern;

/**
 * Random runs of calls, with fixed seeds, against a second reading of the document that is
 * written in another way: objects, recursion, and a regular expression for the text.
 */
public final class ModelTest {
    private static final int RUNS = 5000;
    private static final int CALLS = 512;
    /** A text is typed and executed at once, and the checksum follows. */
    private static final int MOST_AT_ONCE = 125;

    record Rect(int x, int y, int w, int h) {
        static boolean possible(int x, int y, int w, int h) {
            return x >= 0 && x <= 63 && y >= 0 && y <= 63 && w >= 1 && w <= 64 && h >= 1 && h <= 64
                && x + w <= 64 && y + h <= 64;
        }
        int area() { return w * h; }
        Rect with(Rect o) {
            int l = Math.min(x, o.x), t = Math.min(y, o.y);
            return new Rect(l, t, Math.max(x + w, o.x + o.w) - l, Math.max(y + h, o.y + o.h) - t);
        }
        Rect common(Rect o) {
            int l = Math.max(x, o.x), t = Math.max(y, o.y);
            int r = Math.min(x + w, o.x + o.w), b = Math.min(y + h, o.y + o.h);
            return r > l && b > t ? new Rect(l, t, r - l, b - t) : null;
        }
        int growth(Rect by) { return with(by).area() - area(); }
        int waste(Rect o) { return with(o).area() - area() - o.area(); }
        int get(int what) { return what == 0 ? x : what == 1 ? y : what == 2 ? w : h; }
    }

    /** A shape (number 0 or more) or a node (number -1) of the tree. */
    static final class Item {
        int number = -1;
        Rect own;
        boolean leaf = true;
        List<Item> items = new ArrayList<>();

        Rect box() {
            if (number >= 0) return own;
            Rect all = null;
            for (Item i : items) all = all == null ? i.box() : all.with(i.box());
            return all;
        }
        Item copy() {
            Item c = new Item();
            c.number = number; c.own = own; c.leaf = leaf;
            for (Item i : items) c.items.add(i.copy());
            return c;
        }
        void shapes(List<Item> into) {
            if (number >= 0) into.add(this);
            for (Item i : items) i.shapes(into);
        }
        void nodes(int depth, List<Item> into, List<Integer> depths) {
            if (number >= 0) return;
            into.add(this); depths.add(depth);
            for (Item i : items) i.nodes(depth + 1, into, depths);
        }
    }

    static final class State {
        TreeMap<Integer, Rect> boxes = new TreeMap<>();
        TreeMap<Integer, Integer> levels = new TreeMap<>();
        TreeMap<Integer, Integer> clip = new TreeMap<>();
        List<Rect> damage = new ArrayList<>();
        Item root = new Item();

        State copy() {
            State c = new State();
            c.boxes.putAll(boxes); c.levels.putAll(levels); c.clip.putAll(clip);
            c.damage.addAll(damage);
            c.root = root.copy();
            return c;
        }

        // the tree
        void insert(Item s) {
            Item twin = insertBelow(root, s);
            if (twin != null) {
                Item top = new Item();
                top.leaf = false;
                top.items.add(root); top.items.add(twin);
                root = top;
            }
        }
        Item insertBelow(Item node, Item s) {
            if (node.leaf) {
                node.items.add(s);
            } else {
                Item best = node.items.stream().min(Comparator
                    .comparingInt((Item i) -> i.box().growth(s.own)).thenComparingInt(i -> i.box().area())).get();
                Item twin = insertBelow(best, s);
                if (twin != null) node.items.add(node.items.indexOf(best) + 1, twin);
            }
            return node.items.size() == 5 ? split(node) : null;
        }
        Item split(Item node) {
            List<Item> five = node.items;
            int bi = 0, bj = 1;
            for (int i = 0; i < 5; i++)
                for (int j = i + 1; j < 5; j++)
                    if (five.get(i).box().waste(five.get(j).box()) > five.get(bi).box().waste(five.get(bj).box())) { bi = i; bj = j; }
            Item twin = new Item();
            twin.leaf = node.leaf;
            node.items = new ArrayList<>(List.of(five.get(bi)));
            twin.items.add(five.get(bj));
            List<Item> rest = new ArrayList<>(five);
            rest.remove(bj); rest.remove(bi);
            while (!rest.isEmpty()) {
                Item e = rest.get(0), to;
                if (node.items.size() + rest.size() == 2) to = node;
                else if (twin.items.size() + rest.size() == 2) to = twin;
                else to = List.of(node, twin).stream().min(Comparator
                    .comparingInt((Item n) -> n.box().growth(e.box())).thenComparingInt(n -> n.box().area())
                    .thenComparingInt(n -> n.items.size())).get();
                to.items.add(e);
                rest.remove(0);
            }
            return twin;
        }
        void remove(int s) {
            List<Item> noted = new ArrayList<>();
            removeBelow(root, s, noted);
            while (!root.leaf && root.items.size() == 1) root = root.items.get(0);
            if (root.items.isEmpty()) root = new Item();
            for (Item i : noted) insert(i);
        }
        boolean removeBelow(Item node, int s, List<Item> noted) {
            if (node.leaf) return node.items.removeIf(i -> i.number == s);
            for (Item child : node.items) {
                if (removeBelow(child, s, noted)) {
                    if (child.items.size() < 2) { node.items.remove(child); child.shapes(noted); }
                    return true;
                }
            }
            return false;
        }
        Item item(int s) {
            Item i = new Item();
            i.number = s; i.own = boxes.get(s);
            return i;
        }

        // views and damage
        Rect view(int s) {
            Rect v = boxes.get(s);
            int c = clip.get(s);
            if (c == 16 || v == null) return v;
            Rect above = view(c);
            return above == null ? null : v.common(above);
        }
        boolean affected(int t, int s) { return t == s || clip.get(t) != 16 && affected(clip.get(t), s); }
        void damage(Rect v) {
            if (v == null || damage.contains(v)) return;
            damage.add(v);
            while (true) {
                int bi = -1, bj = -1, least = 0;
                for (int i = 0; i < damage.size(); i++)
                    for (int j = i + 1; j < damage.size(); j++) {
                        int w = damage.get(i).waste(damage.get(j));
                        if (bi < 0 || w < least) { bi = i; bj = j; least = w; }
                    }
                if (bi < 0 || least > 0 && damage.size() <= 4) return;
                damage.set(bi, damage.get(bi).with(damage.get(bj)));
                damage.remove(bj);
            }
        }
        void damageAffected(int s) {
            for (int t : boxes.keySet()) if (affected(t, s)) damage(view(t));
        }

        // the calls that change
        int shape(int x, int y, int w, int h, int z) {
            if (!Rect.possible(x, y, w, h) || z < 0 || z > 99) return -2;
            for (int s = 0; s < 16; s++) {
                if (!boxes.containsKey(s)) {
                    boxes.put(s, new Rect(x, y, w, h)); levels.put(s, z); clip.put(s, 16);
                    insert(item(s));
                    damage(view(s));
                    return s;
                }
            }
            return -4;
        }
        int moves(int s, int x, int y, int w, int h) {
            if (!boxes.containsKey(s) || !Rect.possible(x, y, w, h)) return -2;
            damageAffected(s);
            remove(s);
            boxes.put(s, new Rect(x, y, w, h));
            insert(item(s));
            damageAffected(s);
            return nodes().size();
        }
        int lifts(int s, int z) {
            if (!boxes.containsKey(s) || z < 0 || z > 99) return -2;
            damageAffected(s);
            int had = levels.put(s, z);
            damageAffected(s);
            return had;
        }
        int clips(int s, int t) {
            if (!boxes.containsKey(s) || t != 16 && !boxes.containsKey(t)) return -2;
            if (t != 16 && affected(t, s)) return -3;
            damageAffected(s);
            int had = clip.put(s, t);
            damageAffected(s);
            return had;
        }
        int removes(int s) {
            if (!boxes.containsKey(s)) return -2;
            if (clip.containsValue(s)) return -3;
            damage(view(s));
            remove(s);
            boxes.remove(s); levels.remove(s); clip.remove(s);
            return boxes.size();
        }
        int drawn() {
            int had = damage.size();
            damage.clear();
            return had;
        }

        // queries
        List<Item> nodes() {
            List<Item> all = new ArrayList<>();
            root.nodes(0, all, new ArrayList<>());
            return all;
        }
        List<Integer> depths() {
            List<Integer> all = new ArrayList<>();
            root.nodes(0, new ArrayList<>(), all);
            return all;
        }
        List<Item> walk() {
            List<Item> all = new ArrayList<>();
            root.shapes(all);
            return all;
        }
        List<Integer> downward() {
            List<Integer> all = new ArrayList<>(boxes.keySet());
            all.sort(Comparator.comparingInt((Integer s) -> -levels.get(s)).thenComparingInt(s -> -s));
            return all;
        }
        int of(int s, int what) {
            if (!boxes.containsKey(s) || what < 0 || what > 6) return -2;
            if (what == 4) return levels.get(s);
            if (what == 5) return clip.get(s);
            if (what == 6) return (int) clip.values().stream().filter(c -> c == s).count();
            return boxes.get(s).get(what);
        }
        int view(int s, int what) {
            if (!boxes.containsKey(s) || what < 0 || what > 3) return -2;
            return view(s) == null ? -1 : view(s).get(what);
        }
        int hit(int x, int y, int i) {
            if (x < 0 || x > 63 || y < 0 || y > 63 || i < 0) return -2;
            List<Integer> met = new ArrayList<>();
            for (int s : downward()) if (view(s) != null && view(s).common(new Rect(x, y, 1, 1)) != null) met.add(s);
            return i < met.size() ? met.get(i) : -1;
        }
        int within(int x, int y, int w, int h) {
            if (!Rect.possible(x, y, w, h)) return -2;
            return (int) boxes.values().stream().filter(b -> b.common(new Rect(x, y, w, h)) != null).count();
        }
        int nearest(int x, int y) {
            if (x < 0 || x > 63 || y < 0 || y > 63) return -2;
            int best = -1, least = 0;
            for (int s : downward()) {
                int d = Integer.MAX_VALUE;
                Rect b = boxes.get(s);
                for (int px = b.x(); px < b.x() + b.w(); px++)
                    for (int py = b.y(); py < b.y() + b.h(); py++)
                        d = Math.min(d, (px - x) * (px - x) + (py - y) * (py - y));
                if (best < 0 || d < least) { best = s; least = d; }
            }
            return best;
        }
        int damage(int i, int what) {
            if (i < 0 || what < 0 || what > 3) return -2;
            return i < damage.size() ? damage.get(i).get(what) : -1;
        }
        int tree(int what) {
            if (what < 0 || what > 3) return -2;
            if (what == 0) return nodes().size();
            if (what == 1) return (int) nodes().stream().filter(n -> n.leaf).count();
            if (what == 2) return depths().stream().mapToInt(d -> d).max().getAsInt();
            return nodes().stream().filter(n -> n.leaf && n.box() != null).mapToInt(n -> n.box().area()).sum();
        }
        int node(int i, int what) {
            if (i < 0 || what < 0 || what > 5) return -2;
            if (i >= nodes().size()) return -5;
            Item n = nodes().get(i);
            if (what == 0) return depths().get(i);
            if (what == 1) return n.items.size();
            return n.box() == null ? 0 : n.box().get(what - 2);
        }
        int walk(int i) {
            if (i < 0) return -2;
            return i < walk().size() ? walk().get(i).number : -1;
        }
    }

    static final class Model {
        private static final String N = " *([0-9]{1,2})", M = " +([0-9]{1,2})";
        private static final Pattern ORDER = Pattern.compile(" *(?:(s)" + N + M + M + M + M + "|(m)" + N + M + M + M + M
            + "|(l)" + N + M + "|(c)" + N + M + "|(r)" + N + "|(d)) *;");
        private static final Pattern TEXT = Pattern.compile("(?:" + ORDER.pattern().replaceAll("\\((?!\\?)", "(?:") + ")+ *");

        State now = new State();
        Deque<State> past = new ArrayDeque<>();
        StringBuilder text = new StringBuilder();
        int[] counts = new int[3];

        int count(int answer) {
            if (answer <= -2 && answer >= -4) counts[-2 - answer]++;
            return answer;
        }
        void push(State before) {
            past.push(before);
            if (past.size() > 5) past.removeLast();
        }
        int change(int kind, int a, int b, int c, int d, int e) {
            State before = now.copy();
            int answer = carryOut(kind, a, b, c, d, e);
            if (answer >= 0) push(before);
            return count(answer);
        }
        int carryOut(int kind, int a, int b, int c, int d, int e) {
            return switch (kind) {
                case 's' -> now.shape(a, b, c, d, e);
                case 'm' -> now.moves(a, b, c, d, e);
                case 'l' -> now.lifts(a, b);
                case 'c' -> now.clips(a, b);
                case 'r' -> now.removes(a);
                default -> now.drawn();
            };
        }
        int type(int c) {
            if (c < 0 || c > 127) return count(-2);
            if (text.length() == 120) return count(-4);
            text.append((char) c);
            return text.length();
        }
        int clear() {
            int had = text.length();
            text.setLength(0);
            return had;
        }
        int fault() {
            for (int end = 1; end <= text.length(); end++) {
                Matcher m = TEXT.matcher(text.substring(0, end));
                if (!m.matches() && !m.hitEnd()) return end - 1;
            }
            return TEXT.matcher(text).matches() ? -1 : text.length();
        }
        int does() {
            if (fault() >= 0) return -10 - fault();
            State before = now.copy();
            Matcher m = ORDER.matcher(text);
            int done = 0;
            for (; m.find(); done++) {
                List<String> parts = new ArrayList<>();
                for (int g = 1; g <= m.groupCount(); g++) if (m.group(g) != null) parts.add(m.group(g));
                int[] v = new int[5];
                for (int k = 1; k < parts.size(); k++) v[k - 1] = Integer.parseInt(parts.get(k));
                if (carryOut(parts.get(0).charAt(0), v[0], v[1], v[2], v[3], v[4]) < 0) {
                    now = before;
                    return -1000 - done;
                }
            }
            push(before);
            return done;
        }
        int back() {
            if (past.isEmpty()) return count(-3);
            now = past.pop();
            return past.size();
        }
        int told(int what) {
            if (what < 0 || what > 6) return count(-2);
            return what < 3 ? counts[what] : what == 3 ? text.length() : what == 4 ? past.size()
                : what == 5 ? now.boxes.size() : now.damage.size();
        }
        long digest() {
            List<Integer> all = new ArrayList<>();
            for (int k = 0; k < 7; k++) all.add(told(k));
            for (int k = 0; k < 4; k++) all.add(now.tree(k));
            for (int i = 0; i < now.nodes().size(); i++) for (int k = 0; k < 6; k++) all.add(now.node(i, k));
            for (Item i : now.walk()) {
                all.add(i.number);
                for (int k = 0; k < 6; k++) all.add(now.of(i.number, k));
                for (int k = 0; k < 4; k++) all.add(now.view(i.number, k));
            }
            for (Rect r : now.damage) for (int k = 0; k < 4; k++) all.add(r.get(k));
            long h = 1757;
            for (int v : all) h = 31 * h + v;
            return h;
        }
    }

    private static int wrong = 0;
    private static boolean same = true;
    private static final TreeMap<Integer, Integer> seen = new TreeMap<>();

    private static void due(String call, long got, long want) {
        if (got != want) {
            wrong++;
            same = false;
            System.out.println(call + " answered " + got + ", due is " + want);
        }
        if (got < 0) seen.merge((int) Math.max(got, -2000), 1, Integer::sum);
    }

    /** Numbers that are mostly in range, at times at its ends or outside. */
    private static int number(Random r, int end) {
        int dice = r.nextInt(60);
        if (dice == 0) return -1;
        if (dice == 1) return end;
        if (dice == 2) return end - 1;
        if (dice == 3) return r.nextBoolean() ? Integer.MAX_VALUE : Integer.MIN_VALUE;
        return r.nextInt(end);
    }

    /** x, y, w and h, of a kind that goes with the run: coarse grids make many equal wastes. */
    private static int[] box(Random r, int style) {
        int dice = r.nextInt(40);
        if (dice == 0) return new int[] {number(r, 64), number(r, 64), number(r, 65), number(r, 65)};
        int grid = style % 3 == 0 ? 1 : style % 3 == 1 ? 8 : 16;
        int most = style / 3 % 3 == 0 ? 8 : style / 3 % 3 == 1 ? 24 : 64;
        int x = r.nextInt(64 / grid) * grid, y = r.nextInt(64 / grid) * grid;
        int w = Math.min(64 - x, (1 + r.nextInt(Math.max(1, most / grid))) * grid);
        int h = Math.min(64 - y, (1 + r.nextInt(Math.max(1, most / grid))) * grid);
        return new int[] {x, y, w, h};
    }

    private static String order(Random r, int style) {
        int[] b = box(r, style);
        String gap = r.nextInt(4) == 0 ? "  " : " ";
        String four = b[0] + gap + b[1] + gap + b[2] + gap + b[3];
        String s = String.valueOf(r.nextInt(16));
        String free = r.nextInt(4) == 0 ? " " : "";
        return free + switch (r.nextInt(6)) {
            case 0 -> "s" + free + four + " " + r.nextInt(100);
            case 1 -> "m" + free + s + " " + four;
            case 2 -> "l" + free + s + gap + r.nextInt(100);
            case 3 -> "c" + s + gap + r.nextInt(17);
            case 4 -> "r" + free + s;
            default -> r.nextInt(3) == 0 ? "d" : "l0 0";
        } + free + ";";
    }

    private static String text(Random r, int style) {
        StringBuilder t = new StringBuilder();
        for (int k = r.nextInt(4); k >= 0; k--) t.append(order(r, style));
        if (r.nextInt(8) == 0) t.append(' ');
        if (r.nextInt(3) == 0 && t.length() > 0) {
            String signs = "0123456789 ;smlcrdxS\t-,";
            int at = r.nextInt(t.length());
            char sign = r.nextInt(10) == 0 ? (char) r.nextInt(128) : signs.charAt(r.nextInt(signs.length()));
            switch (r.nextInt(4)) {
                case 0 -> t.setCharAt(at, sign);
                case 1 -> t.insert(at, sign);
                case 2 -> t.deleteCharAt(at);
                default -> t.setLength(at);
            }
        }
        return t.toString();
    }

    private static int calls(SceneBoxes x, Model m, Random r, int style) {
        int s = number(r, 16), what = number(r, 7);
        int[] b = box(r, style);
        switch (r.nextInt(26)) {
            case 0, 1, 2, 3, 4 -> {
                int z = style % 2 == 0 ? number(r, 100) : r.nextInt(3);
                due("shape", x.shape(b[0], b[1], b[2], b[3], z), m.change('s', b[0], b[1], b[2], b[3], z)); }
            case 5, 6, 7 -> due("moves", x.moves(s, b[0], b[1], b[2], b[3]), m.change('m', s, b[0], b[1], b[2], b[3]));
            case 8 -> { int z = number(r, 100); due("lifts", x.lifts(s, z), m.change('l', s, z, 0, 0, 0)); }
            case 9, 10 -> { int t = number(r, 17); due("clips", x.clips(s, t), m.change('c', s, t, 0, 0, 0)); }
            case 11, 12 -> due("removes", x.removes(s), m.change('r', s, 0, 0, 0, 0));
            case 13 -> { if (r.nextInt(3) == 0) due("drawn", x.drawn(), m.change('d', 0, 0, 0, 0, 0)); }
            case 14 -> due("of", x.of(s, what), m.count(m.now.of(s, what)));
            case 15 -> { int k = number(r, 4); due("view", x.view(s, k), m.count(m.now.view(s, k))); }
            case 16 -> { int px = number(r, 64), py = number(r, 64), i = number(r, 5);
                due("hit", x.hit(px, py, i), m.count(m.now.hit(px, py, i))); }
            case 17 -> due("within", x.within(b[0], b[1], b[2], b[3]), m.count(m.now.within(b[0], b[1], b[2], b[3])));
            case 18 -> { int px = number(r, 64), py = number(r, 64);
                due("nearest", x.nearest(px, py), m.count(m.now.nearest(px, py))); }
            case 19 -> { int i = number(r, 5), k = number(r, 4); due("damage", x.damage(i, k), m.count(m.now.damage(i, k))); }
            case 20 -> { int k = number(r, 4); due("tree", x.tree(k), m.count(m.now.tree(k))); }
            case 21 -> { int i = number(r, 10), k = number(r, 6); due("node", x.node(i, k), m.count(m.now.node(i, k))); }
            case 22 -> due("walk", x.walk(s), m.count(m.now.walk(s)));
            case 23 -> {
                String t = text(r, style);
                if (r.nextInt(10) > 0) due("clear", x.clear(), m.clear());
                for (int k = 0; k < t.length(); k++) due("type", x.type(t.charAt(k)), m.type(t.charAt(k)));
                int got = x.does();
                due("does of '" + m.text + "'", got, m.does());
                return t.length() + 2; }
            case 24 -> { if (style % 4 == 0 || r.nextInt(4) == 0) due("back", x.back(), m.back()); }
            default -> {
                due("told", x.told(what), m.told(what));
                int c = number(r, 128);
                due("type", x.type(c), m.type(c));
                return 2; }
        }
        return 1;
    }

    public static void main(String[] args) {
        for (int run = 0; run < RUNS && wrong < 20; run++) {
            Random r = new Random(run);
            SceneBoxes x = new SceneBoxes();
            Model m = new Model();
            same = true;
            int made = 0;
            while (made + MOST_AT_ONCE < CALLS && same) {
                made += calls(x, m, r, run % 36) + 1;
                due("run " + run + ": digest", x.digest(), m.digest());
            }
        }
        for (int code : new int[] {-1, -2, -3, -4, -5, -10, -1000, -1001}) {
            if (!seen.containsKey(code)) {
                wrong++;
                System.out.println("the runs never met the answer " + code);
            }
        }
        System.out.println(wrong == 0 ? RUNS + " runs agree with the model" : wrong + " answers differ from the model");
        if (wrong != 0) System.exit(1);
    }
}
