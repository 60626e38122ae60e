/** A spatial index for a two-dimensional scene; ../shared/DOC.md says what each call answers. */
public final class SceneBoxes {
    public static final int NONE = -1, BAD = -2, NO = -3, FULL = -4;

    private static final int NO_NODE = -5;
    private static final int FAULT_BASE = -10;
    private static final int ORDER_BASE = -1000;

    private static final int SIDE = 64;
    private static final int TOP_LEVEL = 99;
    private static final int SHAPES = 16;
    private static final int NO_CLIP = 16;
    private static final int TEXT_ROOM = 120;
    private static final int UNDO_ROOM = 5;
    private static final int LAST_BYTE = 127;

    private static final int BOX_SIDES = 4;
    private static final int SHAPE_VALUES = 7;
    private static final int TREE_VALUES = 4;
    private static final int NODE_VALUES = 6;
    private static final int COUNTS = 7;

    private Scene now = new Scene();
    private Scene spare = new Scene();
    private final Scene[] past = new Scene[UNDO_ROOM];
    private int undoable = 0;

    private final int[] text = new int[TEXT_ROOM];
    private int length = 0;
    private final Orders orders = new Orders();

    private int bads = 0;
    private int nos = 0;
    private int fulls = 0;

    public SceneBoxes() {
        for (int k = 0; k < UNDO_ROOM; k++) {
            past[k] = new Scene();
        }
    }

    public int shape(int x, int y, int w, int h, int z) {
        spare.copyFrom(now);
        return settled(now.addShape(x, y, w, h, z));
    }

    public int moves(int s, int x, int y, int w, int h) {
        spare.copyFrom(now);
        return settled(now.moveShape(s, x, y, w, h));
    }

    public int lifts(int s, int z) {
        spare.copyFrom(now);
        return settled(now.liftShape(s, z));
    }

    public int clips(int s, int t) {
        spare.copyFrom(now);
        return settled(now.clipShape(s, t));
    }

    public int removes(int s) {
        spare.copyFrom(now);
        return settled(now.removeShape(s));
    }

    public int drawn() {
        spare.copyFrom(now);
        return settled(now.damaged.empty());
    }

    public int of(int s, int what) {
        if (!now.has(s) || !inRange(what, SHAPE_VALUES)) {
            return counted(BAD);
        }
        return now.shapeValue(s, what);
    }

    public int view(int s, int what) {
        if (!now.has(s) || !inRange(what, BOX_SIDES)) {
            return counted(BAD);
        }
        return now.viewValue(s, what);
    }

    public int hit(int x, int y, int i) {
        if (!inRange(x, SIDE) || !inRange(y, SIDE) || i < 0) {
            return counted(BAD);
        }
        return now.hitAt(x, y, i);
    }

    public int within(int x, int y, int w, int h) {
        int window = Box.make(x, y, w, h);
        if (window == Box.EMPTY) {
            return counted(BAD);
        }
        return now.countMeeting(window);
    }

    public int nearest(int x, int y) {
        if (!inRange(x, SIDE) || !inRange(y, SIDE)) {
            return counted(BAD);
        }
        return now.nearestTo(x, y);
    }

    public int damage(int i, int what) {
        if (i < 0 || !inRange(what, BOX_SIDES)) {
            return counted(BAD);
        }
        return now.damaged.value(i, what);
    }

    public int tree(int what) {
        if (!inRange(what, TREE_VALUES)) {
            return counted(BAD);
        }
        return now.index.summary(what);
    }

    public int node(int i, int what) {
        if (i < 0 || !inRange(what, NODE_VALUES)) {
            return counted(BAD);
        }
        int nodes = now.index.lineUp(now.index.root);
        return i < nodes ? now.index.lineValue(i, what) : NO_NODE;
    }

    public int walk(int i) {
        if (i < 0) {
            return counted(BAD);
        }
        int shapes = now.index.noteAll();
        return i < shapes ? now.index.noted[i] : NONE;
    }

    public int type(int c) {
        if (!inRange(c, LAST_BYTE + 1)) {
            return counted(BAD);
        }
        if (length >= TEXT_ROOM) {
            return counted(FULL);
        }
        text[length] = c;
        length++;
        return length;
    }

    public int clear() {
        int had = length;
        length = 0;
        return had;
    }

    public int does() {
        int fault = orders.read(text, length);
        if (fault != Orders.FAULTLESS) {
            return FAULT_BASE - fault;
        }
        spare.copyFrom(now);
        int used = 0;
        for (int k = 0; k < orders.count; k++) {
            if (carryOut(orders.kinds[k], used) < 0) {
                swapNowAndSpare();
                return ORDER_BASE - k;
            }
            used += Orders.numbersOf(orders.kinds[k]);
        }
        remember();
        return orders.count;
    }

    public int back() {
        if (undoable == 0) {
            return counted(NO);
        }
        undoable--;
        Scene left = now;
        now = past[undoable];
        past[undoable] = left;
        return undoable;
    }

    public int told(int what) {
        if (!inRange(what, COUNTS)) {
            return counted(BAD);
        }
        return countOf(what);
    }

    public long digest() {
        long sum = 1757;
        for (int what = 0; what < COUNTS; what++) {
            sum = 31 * sum + countOf(what);
        }
        sum = now.index.digestOn(sum);
        int shapes = now.index.noteAll();
        for (int k = 0; k < shapes; k++) {
            sum = now.digestShape(now.index.noted[k], sum);
        }
        return now.damaged.digestOn(sum);
    }

    private static boolean inRange(int value, int end) {
        return value >= 0 && value < end;
    }

    private int countOf(int what) {
        switch (what) {
            case 0: return bads;
            case 1: return nos;
            case 2: return fulls;
            case 3: return length;
            case 4: return undoable;
            case 5: return now.shapeCount();
            default: return now.damaged.count;
        }
    }

    private int counted(int answer) {
        if (answer == BAD) {
            bads++;
        } else if (answer == NO) {
            nos++;
        } else if (answer == FULL) {
            fulls++;
        }
        return answer;
    }

    /** Ends a call that can be undone; the spare scene holds the state before it. */
    private int settled(int answer) {
        if (answer >= 0) {
            remember();
        }
        return counted(answer);
    }

    /** Keeps the spare scene as the latest past; the scene that falls out is the next spare. */
    private void remember() {
        if (undoable == UNDO_ROOM) {
            Scene oldest = past[0];
            for (int k = 0; k + 1 < UNDO_ROOM; k++) {
                past[k] = past[k + 1];
            }
            past[UNDO_ROOM - 1] = spare;
            spare = oldest;
            return;
        }
        Scene unused = past[undoable];
        past[undoable] = spare;
        spare = unused;
        undoable++;
    }

    private void swapNowAndSpare() {
        Scene left = now;
        now = spare;
        spare = left;
    }

    /** Carries out one order whose numbers begin at the given place of the row of numbers. */
    private int carryOut(int kind, int at) {
        int a = orders.number(at);
        int b = orders.number(at + 1);
        int c = orders.number(at + 2);
        int d = orders.number(at + 3);
        int e = orders.number(at + 4);
        switch (kind) {
            case 's': return now.addShape(a, b, c, d, e);
            case 'm': return now.moveShape(a, b, c, d, e);
            case 'l': return now.liftShape(a, b);
            case 'c': return now.clipShape(a, b);
            case 'r': return now.removeShape(a);
            default: return now.damaged.empty();
        }
    }

    /**
     * Boxes packed into one number, so that no call makes objects: left, top, right and bottom
     * take seven bits each, right and bottom being the first places outside. No box is 0, since
     * right is at least 1; 0 stands for the empty box.
     */
    private static final class Box {
        static final int EMPTY = 0;
        static final int BITS = 7;
        static final int MASK = 127;

        /** The box, or EMPTY if there is no such box. */
        static int make(int x, int y, int w, int h) {
            if (x < 0 || x >= SIDE || y < 0 || y >= SIDE) {
                return EMPTY;
            }
            if (w < 1 || w > SIDE - x || h < 1 || h > SIDE - y) {
                return EMPTY;
            }
            return pack(x, y, x + w, y + h);
        }

        static int pack(int left, int top, int right, int bottom) {
            return left | top << BITS | right << 2 * BITS | bottom << 3 * BITS;
        }

        static int left(int box) {
            return box & MASK;
        }

        static int top(int box) {
            return box >> BITS & MASK;
        }

        static int right(int box) {
            return box >> 2 * BITS & MASK;
        }

        static int bottom(int box) {
            return box >> 3 * BITS & MASK;
        }

        /** 0 for x, 1 for y, 2 for the width, 3 for the height. */
        static int value(int box, int what) {
            switch (what) {
                case 0: return left(box);
                case 1: return top(box);
                case 2: return right(box) - left(box);
                default: return bottom(box) - top(box);
            }
        }

        static int area(int box) {
            return (right(box) - left(box)) * (bottom(box) - top(box));
        }

        static int union(int a, int b) {
            if (a == EMPTY || b == EMPTY) {
                return a | b;
            }
            return pack(Math.min(left(a), left(b)), Math.min(top(a), top(b)),
                Math.max(right(a), right(b)), Math.max(bottom(a), bottom(b)));
        }

        static int meet(int a, int b) {
            int left = Math.max(left(a), left(b));
            int top = Math.max(top(a), top(b));
            int right = Math.min(right(a), right(b));
            int bottom = Math.min(bottom(a), bottom(b));
            return left < right && top < bottom ? pack(left, top, right, bottom) : EMPTY;
        }

        static int growth(int box, int by) {
            return area(union(box, by)) - area(box);
        }

        static int waste(int a, int b) {
            return area(union(a, b)) - area(a) - area(b);
        }

        static boolean holds(int box, int x, int y) {
            return x >= left(box) && x < right(box) && y >= top(box) && y < bottom(box);
        }

        static int distance(int box, int x, int y) {
            int dx = Math.max(0, Math.max(left(box) - x, x - right(box) + 1));
            int dy = Math.max(0, Math.max(top(box) - y, y - bottom(box) + 1));
            return dx * dx + dy * dy;
        }
    }

    /**
     * The tree, in rows over numbers: 0 to 15 are the shapes, 16 to 31 are places for nodes.
     * Sixteen shapes never need more than fifteen nodes, since each node has two entries or more.
     */
    private static final class Tree {
        static final int NODES = 16;
        static final int ALL = SHAPES + NODES;
        static final int NOTHING = -1;
        static final int FREE = -1;
        static final int LEAF = 0;
        static final int LEAST = 2;
        /** A node is split when it is as full as this. */
        static final int ROOM = 5;
        /** The entries that a split hands out after its first pair. */
        static final int OTHERS = 3;

        int root = SHAPES;
        final int[] boxes = new int[ALL];
        final int[] parents = new int[ALL];
        /** How far a node stands above the leaves; FREE for a place without a node. */
        final int[] ranks = new int[ALL];
        final int[] sizes = new int[ALL];
        final int[] entries = new int[NODES * ROOM];

        final int[] others = new int[OTHERS];
        final int[] line = new int[NODES];
        final int[] noted = new int[SHAPES];
        int notedCount = 0;

        Tree() {
            for (int id = 0; id < ALL; id++) {
                parents[id] = NOTHING;
                ranks[id] = FREE;
            }
            ranks[root] = LEAF;
        }

        void copyFrom(Tree other) {
            root = other.root;
            System.arraycopy(other.boxes, 0, boxes, 0, ALL);
            System.arraycopy(other.parents, 0, parents, 0, ALL);
            System.arraycopy(other.ranks, 0, ranks, 0, ALL);
            System.arraycopy(other.sizes, 0, sizes, 0, ALL);
            System.arraycopy(other.entries, 0, entries, 0, NODES * ROOM);
        }

        static int place(int node, int k) {
            return (node - SHAPES) * ROOM + k;
        }

        /** Inserts a shape whose box stands in the row of boxes. */
        void put(int shape) {
            int node = root;
            for (int step = 0; step < NODES && ranks[node] > LEAF; step++) {
                node = cheapestEntry(node, boxes[shape]);
            }
            append(node, shape);
            for (int step = 0; step < NODES && node != NOTHING; step++) {
                if (sizes[node] < ROOM) {
                    fit(node);
                } else {
                    int twin = newNode(ranks[node]);
                    if (twin == NOTHING) {
                        return;
                    }
                    seed(node, twin, worstPair(node));
                    for (int k = 0; k < OTHERS; k++) {
                        append(chosen(node, twin, k), others[k]);
                    }
                    hang(node, twin);
                }
                node = parents[node];
            }
        }

        /** Takes a shape out; what is to be inserted again then stands in the row of noted shapes. */
        void takeOut(int shape) {
            notedCount = 0;
            int node = parents[shape];
            if (node == NOTHING) {
                return;
            }
            cut(node, shape);
            for (int step = 0; step < NODES && parents[node] != NOTHING; step++) {
                int above = parents[node];
                if (sizes[node] < LEAST) {
                    cut(above, node);
                    dissolve(node);
                } else {
                    fit(node);
                }
                node = above;
            }
            fit(root);
            lowerRoot();
        }

        /** Fills the line with a node and all nodes below it, in the order of walking. */
        int lineUp(int from) {
            line[0] = from;
            int count = 1;
            for (int k = 0; k < count && k < NODES; k++) {
                int node = line[k];
                if (ranks[node] > LEAF && count + sizes[node] <= NODES) {
                    for (int m = count - 1; m > k; m--) {
                        line[m + sizes[node]] = line[m];
                    }
                    System.arraycopy(entries, place(node, 0), line, k + 1, sizes[node]);
                    count += sizes[node];
                }
            }
            return count;
        }

        int noteAll() {
            notedCount = 0;
            noteLine(lineUp(root));
            return notedCount;
        }

        int summary(int what) {
            int nodes = 0;
            int leaves = 0;
            int area = 0;
            for (int node = SHAPES; node < ALL; node++) {
                if (ranks[node] != FREE) {
                    nodes++;
                }
                if (ranks[node] == LEAF) {
                    leaves++;
                    area += Box.area(boxes[node]);
                }
            }
            switch (what) {
                case 0: return nodes;
                case 1: return leaves;
                case 2: return ranks[root];
                default: return area;
            }
        }

        /** A property of a node in the line that lineUp made from the root. */
        int lineValue(int i, int what) {
            int node = line[i];
            switch (what) {
                case 0: return ranks[root] - ranks[node];
                case 1: return sizes[node];
                default: return Box.value(boxes[node], what - 2);
            }
        }

        long digestOn(long start) {
            long sum = start;
            for (int what = 0; what < TREE_VALUES; what++) {
                sum = 31 * sum + summary(what);
            }
            int nodes = lineUp(root);
            for (int i = 0; i < nodes; i++) {
                for (int what = 0; what < NODE_VALUES; what++) {
                    sum = 31 * sum + lineValue(i, what);
                }
            }
            return sum;
        }

        private int cheapestEntry(int node, int box) {
            int best = entries[place(node, 0)];
            int bestGrowth = Box.growth(boxes[best], box);
            for (int k = 1; k < sizes[node]; k++) {
                int entry = entries[place(node, k)];
                int growth = Box.growth(boxes[entry], box);
                boolean less = growth == bestGrowth
                    ? Box.area(boxes[entry]) < Box.area(boxes[best])
                    : growth < bestGrowth;
                if (less) {
                    best = entry;
                    bestGrowth = growth;
                }
            }
            return best;
        }

        private void append(int node, int entry) {
            if (sizes[node] < ROOM) {
                entries[place(node, sizes[node])] = entry;
                sizes[node]++;
                parents[entry] = node;
                boxes[node] = Box.union(boxes[node], boxes[entry]);
            }
        }

        private void cut(int node, int entry) {
            int kept = 0;
            for (int k = 0; k < sizes[node]; k++) {
                int other = entries[place(node, k)];
                if (other != entry) {
                    entries[place(node, kept)] = other;
                    kept++;
                }
            }
            sizes[node] = kept;
            parents[entry] = NOTHING;
        }

        private void fit(int node) {
            int box = Box.EMPTY;
            for (int k = 0; k < sizes[node]; k++) {
                box = Box.union(box, boxes[entries[place(node, k)]]);
            }
            boxes[node] = box;
        }

        private int newNode(int rank) {
            for (int node = SHAPES; node < ALL; node++) {
                if (ranks[node] == FREE) {
                    ranks[node] = rank;
                    parents[node] = NOTHING;
                    empty(node);
                    return node;
                }
            }
            return NOTHING;
        }

        private void empty(int node) {
            sizes[node] = 0;
            boxes[node] = Box.EMPTY;
        }

        /** The pair of entries with the greatest waste, as ROOM times the first plus the second. */
        private int worstPair(int node) {
            int pair = 0;
            int most = 0;
            for (int i = 0; i < ROOM; i++) {
                for (int j = i + 1; j < ROOM; j++) {
                    int waste = Box.waste(boxes[entries[place(node, i)]],
                        boxes[entries[place(node, j)]]);
                    if (pair == 0 || waste > most) {
                        most = waste;
                        pair = ROOM * i + j;
                    }
                }
            }
            return pair;
        }

        /** Leaves one of the pair in the node, gives the other one to the twin, keeps the others. */
        private void seed(int node, int twin, int pair) {
            int first = entries[place(node, pair / ROOM)];
            int second = entries[place(node, pair % ROOM)];
            int kept = 0;
            for (int k = 0; k < ROOM; k++) {
                int entry = entries[place(node, k)];
                if (entry != first && entry != second && kept < OTHERS) {
                    others[kept] = entry;
                    kept++;
                }
            }
            empty(node);
            append(node, first);
            append(twin, second);
        }

        /** Which of the two nodes of a split gets the k-th of the other entries. */
        private int chosen(int node, int twin, int k) {
            int left = OTHERS - k;
            if (sizes[node] + left == LEAST) {
                return node;
            }
            if (sizes[twin] + left == LEAST) {
                return twin;
            }
            int box = boxes[others[k]];
            int order = Box.growth(boxes[node], box) - Box.growth(boxes[twin], box);
            if (order == 0) {
                order = Box.area(boxes[node]) - Box.area(boxes[twin]);
            }
            if (order == 0) {
                order = sizes[node] - sizes[twin];
            }
            return order <= 0 ? node : twin;
        }

        /** Gives the twin its place directly after the node, below a new root if need be. */
        private void hang(int node, int twin) {
            int above = parents[node];
            if (above == NOTHING) {
                above = newNode(ranks[node] + 1);
                if (above == NOTHING) {
                    return;
                }
                root = above;
                append(above, node);
            }
            append(above, twin);
            for (int at = sizes[above] - 1; at > 0 && entries[place(above, at - 1)] != node; at--) {
                entries[place(above, at)] = entries[place(above, at - 1)];
                entries[place(above, at - 1)] = twin;
            }
        }

        /** Notes the shapes of the first nodes of the line. */
        private void noteLine(int nodes) {
            for (int i = 0; i < nodes; i++) {
                int node = line[i];
                if (ranks[node] == LEAF && notedCount + sizes[node] <= SHAPES) {
                    System.arraycopy(entries, place(node, 0), noted, notedCount, sizes[node]);
                    notedCount += sizes[node];
                }
            }
        }

        private void dissolve(int from) {
            int nodes = lineUp(from);
            noteLine(nodes);
            for (int i = 0; i < nodes; i++) {
                ranks[line[i]] = FREE;
            }
        }

        private void lowerRoot() {
            for (int step = 0; step < NODES && ranks[root] > LEAF && sizes[root] == 1; step++) {
                int below = entries[place(root, 0)];
                ranks[root] = FREE;
                parents[below] = NOTHING;
                root = below;
            }
            if (sizes[root] == 0) {
                ranks[root] = LEAF;
            }
        }
    }

    /** The sequence of damaged boxes. */
    private static final class Damage {
        static final int MOST = 4;

        final int[] boxes = new int[MOST + 1];
        int count = 0;

        void copyFrom(Damage other) {
            count = other.count;
            System.arraycopy(other.boxes, 0, boxes, 0, MOST + 1);
        }

        int empty() {
            int had = count;
            count = 0;
            return had;
        }

        int value(int i, int what) {
            return i < count ? Box.value(boxes[i], what) : NONE;
        }

        void add(int box) {
            if (box == Box.EMPTY || contains(box) || count > MOST) {
                return;
            }
            boxes[count] = box;
            count++;
            for (int step = 0; step < MOST && count > 1; step++) {
                int first = 0;
                int second = 1;
                int least = Box.waste(boxes[0], boxes[1]);
                for (int i = 0; i < count; i++) {
                    for (int j = i + 1; j < count; j++) {
                        int waste = Box.waste(boxes[i], boxes[j]);
                        if (waste < least) {
                            least = waste;
                            first = i;
                            second = j;
                        }
                    }
                }
                if (least > 0 && count <= MOST) {
                    return;
                }
                merge(first, second);
            }
        }

        long digestOn(long start) {
            long sum = start;
            for (int i = 0; i < count; i++) {
                for (int what = 0; what < BOX_SIDES; what++) {
                    sum = 31 * sum + Box.value(boxes[i], what);
                }
            }
            return sum;
        }

        private boolean contains(int box) {
            for (int i = 0; i < count; i++) {
                if (boxes[i] == box) {
                    return true;
                }
            }
            return false;
        }

        private void merge(int i, int j) {
            boxes[i] = Box.union(boxes[i], boxes[j]);
            for (int k = j; k + 1 < count; k++) {
                boxes[k] = boxes[k + 1];
            }
            count--;
        }
    }

    /** One state of the scene: the shapes, their tree and the damage. */
    private static final class Scene {
        final Tree index = new Tree();
        final Damage damaged = new Damage();
        /** Row of the tree; the box of a number without a shape is EMPTY. */
        final int[] boxes = index.boxes;
        final int[] levels = new int[SHAPES];
        final int[] clipOf = new int[SHAPES];

        void copyFrom(Scene other) {
            index.copyFrom(other.index);
            damaged.copyFrom(other.damaged);
            System.arraycopy(other.levels, 0, levels, 0, SHAPES);
            System.arraycopy(other.clipOf, 0, clipOf, 0, SHAPES);
        }

        boolean has(int s) {
            return s >= 0 && s < SHAPES && boxes[s] != Box.EMPTY;
        }

        int shapeCount() {
            int shapes = 0;
            for (int s = 0; s < SHAPES; s++) {
                if (boxes[s] != Box.EMPTY) {
                    shapes++;
                }
            }
            return shapes;
        }

        int addShape(int x, int y, int w, int h, int z) {
            int box = Box.make(x, y, w, h);
            if (box == Box.EMPTY || z < 0 || z > TOP_LEVEL) {
                return BAD;
            }
            int s = 0;
            while (s < SHAPES && boxes[s] != Box.EMPTY) {
                s++;
            }
            if (s == SHAPES) {
                return FULL;
            }
            boxes[s] = box;
            levels[s] = z;
            clipOf[s] = NO_CLIP;
            index.put(s);
            damaged.add(box);
            return s;
        }

        int moveShape(int s, int x, int y, int w, int h) {
            int box = Box.make(x, y, w, h);
            if (!has(s) || box == Box.EMPTY) {
                return BAD;
            }
            int affected = affectedBy(s);
            damageViews(affected);
            index.takeOut(s);
            for (int k = 0; k < index.notedCount; k++) {
                index.put(index.noted[k]);
            }
            boxes[s] = box;
            index.put(s);
            damageViews(affected);
            return index.summary(0);
        }

        int liftShape(int s, int z) {
            if (!has(s) || z < 0 || z > TOP_LEVEL) {
                return BAD;
            }
            int had = levels[s];
            int affected = affectedBy(s);
            damageViews(affected);
            levels[s] = z;
            damageViews(affected);
            return had;
        }

        int clipShape(int s, int t) {
            if (!has(s) || t != NO_CLIP && !has(t)) {
                return BAD;
            }
            int affected = affectedBy(s);
            if (t != NO_CLIP && (affected >> t & 1) == 1) {
                return NO;
            }
            int had = clipOf[s];
            damageViews(affected);
            clipOf[s] = t;
            damageViews(affected);
            return had;
        }

        int removeShape(int s) {
            if (!has(s)) {
                return BAD;
            }
            if (clippedBy(s) > 0) {
                return NO;
            }
            damaged.add(viewOf(s));
            index.takeOut(s);
            boxes[s] = Box.EMPTY;
            for (int k = 0; k < index.notedCount; k++) {
                index.put(index.noted[k]);
            }
            return shapeCount();
        }

        int shapeValue(int s, int what) {
            switch (what) {
                case 4: return levels[s];
                case 5: return clipOf[s];
                case 6: return clippedBy(s);
                default: return Box.value(boxes[s], what);
            }
        }

        int viewValue(int s, int what) {
            int box = viewOf(s);
            return box == Box.EMPTY ? NONE : Box.value(box, what);
        }

        int hitAt(int x, int y, int i) {
            int met = 0;
            for (int s = 0; s < SHAPES; s++) {
                if (boxes[s] != Box.EMPTY && Box.holds(viewOf(s), x, y)) {
                    met |= 1 << s;
                }
            }
            for (int step = 0; step < i && step < SHAPES && met != 0; step++) {
                met &= ~(1 << uppermost(met));
            }
            return uppermost(met);
        }

        int countMeeting(int window) {
            int met = 0;
            for (int s = 0; s < SHAPES; s++) {
                if (boxes[s] != Box.EMPTY && Box.meet(boxes[s], window) != Box.EMPTY) {
                    met++;
                }
            }
            return met;
        }

        int nearestTo(int x, int y) {
            int least = 0;
            int near = 0;
            for (int s = 0; s < SHAPES; s++) {
                if (boxes[s] != Box.EMPTY) {
                    int distance = Box.distance(boxes[s], x, y);
                    if (near == 0 || distance < least) {
                        least = distance;
                        near = 0;
                    }
                    if (distance == least) {
                        near |= 1 << s;
                    }
                }
            }
            return uppermost(near);
        }

        long digestShape(int s, long start) {
            long sum = 31 * start + s;
            for (int what = 0; what <= 5; what++) {
                sum = 31 * sum + shapeValue(s, what);
            }
            for (int what = 0; what < BOX_SIDES; what++) {
                sum = 31 * sum + viewValue(s, what);
            }
            return sum;
        }

        /** The uppermost of a set of shapes, a bit each; NONE if the set is empty. */
        private int uppermost(int set) {
            int top = NONE;
            for (int s = 0; s < SHAPES; s++) {
                if ((set >> s & 1) == 1 && (top == NONE || levels[s] >= levels[top])) {
                    top = s;
                }
            }
            return top;
        }

        private int clippedBy(int s) {
            int shapes = 0;
            for (int t = 0; t < SHAPES; t++) {
                if (boxes[t] != Box.EMPTY && clipOf[t] == s) {
                    shapes++;
                }
            }
            return shapes;
        }

        private int viewOf(int s) {
            int box = boxes[s];
            int clip = clipOf[s];
            for (int step = 0; step < SHAPES && has(clip); step++) {
                box = Box.meet(box, boxes[clip]);
                clip = clipOf[clip];
            }
            return box;
        }

        /** The shapes that a change of s affects, a bit each. A change of its clip keeps the set. */
        private int affectedBy(int s) {
            int set = 0;
            for (int t = 0; t < SHAPES; t++) {
                int link = t;
                for (int step = 0; step < SHAPES && link != s && has(link); step++) {
                    link = clipOf[link];
                }
                if (link == s) {
                    set |= 1 << t;
                }
            }
            return set;
        }

        private void damageViews(int set) {
            for (int s = 0; s < SHAPES; s++) {
                if ((set >> s & 1) == 1) {
                    damaged.add(viewOf(s));
                }
            }
        }
    }

    /** The orders of a text, read into rows. */
    private static final class Orders {
        static final int FAULTLESS = -1;
        static final int NO_ORDER = -1;
        static final int MOST_NUMBERS = 5;

        final int[] kinds = new int[TEXT_ROOM];
        final int[] numbers = new int[TEXT_ROOM];
        int count = 0;
        private int used = 0;
        /** How many numbers the open order still wants; NO_ORDER if no order is open. */
        private int wanted = NO_ORDER;
        /** The digits of the number that the byte before belongs to, 0 if it belongs to none. */
        private int digits = 0;

        /** How many numbers follow the letter of an order; NO_ORDER if no order has this letter. */
        static int numbersOf(int letter) {
            switch (letter) {
                case 's': return MOST_NUMBERS;
                case 'm': return MOST_NUMBERS;
                case 'l': return 2;
                case 'c': return 2;
                case 'r': return 1;
                case 'd': return 0;
                default: return NO_ORDER;
            }
        }

        /** The number at a place of the row, 0 behind its end. */
        int number(int at) {
            return at >= 0 && at < TEXT_ROOM ? numbers[at] : 0;
        }

        /** Reads the text; answers its fault, or FAULTLESS. */
        int read(int[] text, int length) {
            count = 0;
            used = 0;
            wanted = NO_ORDER;
            digits = 0;
            for (int at = 0; at < length && at < TEXT_ROOM; at++) {
                if (!takes(text[at])) {
                    return at;
                }
            }
            return wanted != NO_ORDER || count == 0 ? length : FAULTLESS;
        }

        private boolean takes(int c) {
            if (c >= '0' && c <= '9') {
                return takesDigit(c - '0');
            }
            digits = 0;
            if (c == ' ') {
                return true;
            }
            return c == ';' ? takesEnd() : takesLetter(c);
        }

        private boolean takesDigit(int digit) {
            if (digits == 1 && used > 0) {
                numbers[used - 1] = 10 * numbers[used - 1] + digit;
            } else if (digits == 0 && wanted > 0 && used < TEXT_ROOM) {
                numbers[used] = digit;
                used++;
                wanted--;
            } else {
                return false;
            }
            digits++;
            return true;
        }

        private boolean takesEnd() {
            if (wanted != 0) {
                return false;
            }
            count++;
            wanted = NO_ORDER;
            return true;
        }

        private boolean takesLetter(int c) {
            if (wanted != NO_ORDER || count >= TEXT_ROOM) {
                return false;
            }
            kinds[count] = c;
            wanted = numbersOf(c);
            return wanted != NO_ORDER;
        }
    }
}
