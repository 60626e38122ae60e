/**
 * The boundary cases of the document's parts "What it is" and "Description": a test for each sentence
 * that names one, under the words of the sentence.
 */
public final class DescriptionEdgesTest extends Checks {

    // ---- What it is

    private static void callsOfAnObject() {
        about("An object is used for at most 512 calls after it has been made");
        SceneBoxes refusing = new SceneBoxes();
        for (int k = 0; k < 511; k++) {
            refusing.told(7);
        }
        due("the 512th call, told(0)", refusing.told(0), 511);
        SceneBoxes lifting = new SceneBoxes();
        lifting.shape(0, 0, 1, 1, 0);
        for (int k = 0; k < 510; k++) {
            due("lifts", lifting.lifts(0, (k + 1) % 100), k % 100);
        }
        due("the 512th call, back()", lifting.back(), 4);
        SceneBoxes changing = new SceneBoxes();
        for (int k = 0; k < 255; k++) {
            due("shape", changing.shape(1, 1, 1, 1, 1), 0);
            due("removes", changing.removes(0), 0);
        }
        due("the 511th call, shape", changing.shape(2, 2, 2, 2, 2), 0);
        due("the 512th call, of(0, 4)", changing.of(0, 4), 2);
    }

    // ---- Boxes

    private static String named(int x, int y, int w, int h) {
        return "(" + x + ", " + y + ", " + w + ", " + h + ")";
    }

    private static void possible(int x, int y, int w, int h) {
        String box = named(x, y, w, h);
        SceneBoxes a = sceneWith(box(0, 0, 64, 64));
        due("shape with " + box, a.shape(x, y, w, h, 0), 1);
        due("moves to " + box, a.moves(0, x, y, w, h), 1);
        due("within " + box, a.within(x, y, w, h), 2);
        int[] sides = {x, y, w, h};
        for (int k = 0; k < 4; k++) {
            due("of(0, " + k + ") after moves to " + box, a.of(0, k), sides[k]);
            due("of(1, " + k + ") after shape with " + box, a.of(1, k), sides[k]);
        }
    }

    private static void impossible(int x, int y, int w, int h) {
        String box = named(x, y, w, h);
        SceneBoxes a = sceneWith(box(0, 0, 64, 64));
        refused(a, BAD, "shape with " + box, () -> a.shape(x, y, w, h, 0));
        refused(a, BAD, "moves to " + box, () -> a.moves(0, x, y, w, h));
        refused(a, BAD, "within " + box, () -> a.within(x, y, w, h));
    }

    private static void impossibleBothWays(int at, int size) {
        impossible(at, 0, size, 1);
        impossible(0, at, 1, size);
    }

    private static void cornersOfBoxes() {
        about("A box has x and y from 0 to 63");
        possible(0, 0, 1, 1);
        possible(63, 0, 1, 1);
        possible(0, 63, 1, 1);
        possible(63, 63, 1, 1);
        for (int at : new int[] {-1, 64, 65, 127, 128, LOW, HIGH}) {
            impossibleBothWays(at, 1);
        }
        impossibleBothWays(-1, 2);
        impossibleBothWays(-1, 65);
        impossibleBothWays(-64, 64);
    }

    private static void sizesOfBoxes() {
        about("a width w and a height h from 1 to 64");
        possible(0, 0, 1, 64);
        possible(0, 0, 64, 1);
        possible(0, 0, 64, 64);
        for (int size : new int[] {0, -1, 65, 128, LOW, HIGH}) {
            impossibleBothWays(0, size);
        }
        impossibleBothWays(63, 0);
        impossibleBothWays(63, -63);
    }

    private static void endsOfBoxes() {
        about("with x + w and y + h at most 64");
        possible(1, 1, 63, 63);
        possible(32, 31, 32, 33);
        possible(62, 63, 2, 1);
        impossibleBothWays(1, 64);
        impossibleBothWays(32, 33);
        impossibleBothWays(62, 3);
        impossibleBothWays(63, 2);
        impossibleBothWays(63, 64);
    }

    private static void sumsThatWrap() {
        about("with x + w and y + h at most 64, where the sum leaves the range of an int");
        impossibleBothWays(1, HIGH);
        impossibleBothWays(63, HIGH);
        impossibleBothWays(63, HIGH - 62);
        impossibleBothWays(HIGH, 1);
        impossibleBothWays(HIGH, 64);
        impossibleBothWays(HIGH, HIGH);
        impossibleBothWays(LOW, LOW);
        impossibleBothWays(LOW, HIGH);
    }

    private static void pointsOfBoxes() {
        about("Its points are the integer points from x to x + w - 1 and from y to y + h - 1");
        SceneBoxes a = sceneWith(box(10, 20, 3, 4), box(63, 63, 1, 1));
        int[][] inside = {{10, 20}, {12, 20}, {10, 23}, {12, 23}};
        for (int[] p : inside) {
            due("hit(" + p[0] + ", " + p[1] + ", 0)", a.hit(p[0], p[1], 0), 0);
            due("within(" + p[0] + ", " + p[1] + ", 1, 1)", a.within(p[0], p[1], 1, 1), 1);
        }
        int[][] outside = {{9, 20}, {10, 19}, {13, 20}, {12, 19}, {9, 23}, {10, 24}, {13, 23}, {12, 24}, {62, 63}, {63, 62}};
        for (int[] p : outside) {
            due("hit(" + p[0] + ", " + p[1] + ", 0)", a.hit(p[0], p[1], 0), NONE);
            due("within(" + p[0] + ", " + p[1] + ", 1, 1)", a.within(p[0], p[1], 1, 1), 0);
        }
        due("hit(63, 63, 0)", a.hit(63, 63, 0), 1);
    }

    private static void areaOfBoxes() {
        about("Its area is w * h.");
        due("tree(3), least", sceneWith(box(63, 63, 1, 1)).tree(3), 1);
        due("tree(3), wide", sceneWith(box(0, 63, 64, 1)).tree(3), 64);
        due("tree(3), high", sceneWith(box(63, 0, 1, 64)).tree(3), 64);
        due("tree(3), greatest", sceneWith(box(0, 0, 64, 64)).tree(3), 4096);
    }

    private static void unionOfBoxes() {
        about("The union of boxes is the smallest box that contains all their points.");
        nodeIs(sceneWith(box(0, 63, 1, 1), box(63, 0, 1, 1)), 0, 0, 2, 0, 0, 64, 64);
        nodeIs(sceneWith(box(5, 6, 7, 8), box(5, 6, 7, 8)), 0, 0, 2, 5, 6, 7, 8);
        nodeIs(sceneWith(box(6, 7, 1, 1), box(5, 6, 7, 8)), 0, 0, 2, 5, 6, 7, 8);
        nodeIs(sceneWith(box(5, 6, 7, 8), box(12, 6, 1, 8)), 0, 0, 2, 5, 6, 8, 8);
        nodeIs(sceneWith(box(9, 9, 1, 1), box(8, 12, 1, 2), box(20, 3, 4, 1)), 0, 0, 3, 8, 3, 16, 11);
    }

    private static void growthOfBoxes() {
        about("The growth of a box by another one is the area of their union minus its own area.");
        SceneBoxes a = sceneWith(box(0, 0, 40, 40), box(60, 60, 4, 4), box(0, 0, 20, 20), box(62, 60, 2, 2),
            box(10, 10, 2, 2));
        treeIs(a, "((1 3)(2 0 4))");
        // The first leaf would grow from 16 to 529, the second one from 1600 to 1764.
        due("shape(41, 41, 1, 1, 0)", a.shape(41, 41, 1, 1, 0), 5);
        treeIs(a, "((1 3)(2 0 4 5))");
    }

    private static void wasteOfBoxes() {
        about("The waste of two boxes is the area of their union minus both areas.");
        // They overlap in four points, and waste 36 - 16 - 16.
        damageIs(sceneWith(box(10, 10, 4, 4), box(12, 12, 4, 4)), 10, 10, 4, 4, 12, 12, 4, 4);
        // 30 - 16 - 16 is below 0.
        damageIs(sceneWith(box(10, 10, 4, 4), box(12, 11, 4, 4)), 10, 10, 6, 5);
    }

    private static void boxes() {
        cornersOfBoxes();
        sizesOfBoxes();
        endsOfBoxes();
        sumsThatWrap();
        pointsOfBoxes();
        areaOfBoxes();
        unionOfBoxes();
        growthOfBoxes();
        wasteOfBoxes();
    }

    // ---- Shapes

    private static void numbersOfShapes() {
        about("There are at most 16 shapes, with the numbers 0 to 15.");
        SceneBoxes a = row(16);
        refused(a, FULL, "shape, the 17th", () -> a.shape(0, 0, 1, 1, 0));
        due("told(5)", a.told(5), 16);
        due("of(15, 0)", a.of(15, 0), 60);
        due("view(15, 0)", a.view(15, 0), 60);
        due("lifts(15, 1)", a.lifts(15, 1), 0);
        due("clips(15, 14)", a.clips(15, 14), 16);
        due("clips(15, 16)", a.clips(15, 16), 14);
        due("moves(15, 60, 0, 3, 3)", a.moves(15, 60, 0, 3, 3) > 0 ? 1 : 0, 1);
        refused(a, BAD, "of(16, 0)", () -> a.of(16, 0));
        refused(a, BAD, "lifts(16, 0)", () -> a.lifts(16, 0));
        due("removes(15)", a.removes(15), 15);
        due("shape, the 16th again", a.shape(0, 0, 1, 1, 0), 15);
    }

    private static void levelsOfShapes() {
        about("a level z from 0 to 99");
        SceneBoxes a = new SceneBoxes();
        due("shape of level 0", a.shape(0, 0, 1, 1, 0), 0);
        due("shape of level 99", a.shape(0, 0, 1, 1, 99), 1);
        due("lifts(0, 99)", a.lifts(0, 99), 0);
        due("lifts(1, 0)", a.lifts(1, 0), 99);
        for (int z : new int[] {-1, 100, 199, LOW, HIGH}) {
            refused(a, BAD, "shape of level " + z, () -> a.shape(0, 0, 1, 1, z));
            refused(a, BAD, "lifts(0, " + z + ")", () -> a.lifts(0, z));
        }
    }

    private static void clipIsAnotherShape() {
        about("perhaps a clip, which is another shape");
        SceneBoxes a = row(16);
        for (int s : new int[] {0, 7, 15}) {
            due("of(" + s + ", 5)", a.of(s, 5), 16);
            refused(a, NO, "clips to itself", () -> a.clips(s, s));
        }
    }

    private static void noCircleOfClips() {
        about("no shape may be its own clip through a chain of clips");
        for (int length = 2; length <= 16; length++) {
            int last = length - 1;
            SceneBoxes a = row(16);
            chain(a, length);
            refused(a, NO, "a circle of " + length, () -> a.clips(last, 0));
            refused(a, NO, "a circle of two, at the end of " + length, () -> a.clips(last, last - 1));
        }
        SceneBoxes b = row(4);
        chain(b, 3);
        due("clips(3, 1), a second shape with this clip", b.clips(3, 1), 16);
        due("clips(1, 16)", b.clips(1, 16), 2);
        due("clips(2, 0), a circle no more", b.clips(2, 0), 16);
    }

    private static void orderOfHeights() {
        about("Of two shapes the one with the greater level is above the other one, "
            + "and for equal levels the one with the greater number.");
        SceneBoxes a = pile(16);
        for (int i = 0; i < 16; i++) {
            due("hit(8, 8, " + i + ")", a.hit(8, 8, i), 15 - i);
        }
        a.lifts(0, 1);
        a.lifts(15, 99);
        a.lifts(3, 99);
        int[] want = {15, 3, 0, 14};
        for (int i = 0; i < 4; i++) {
            due("hit(8, 8, " + i + ") after lifts", a.hit(8, 8, i), want[i]);
        }
        due("nearest(0, 0)", a.nearest(0, 0), 15);
    }

    private static void viewThroughAChain() {
        about("The view of a shape is the intersection of its box, the box of its clip, the box of the clip of that, "
            + "and so on");
        SceneBoxes a = new SceneBoxes();
        for (int s = 0; s < 16; s++) {
            due("shape", a.shape(s, 0, 64 - s, 64 - 2 * s, 0), s);
        }
        viewIs(a, 0, 0, 0, 64, 64);
        chain(a, 16);
        viewIs(a, 15, 15, 0, 49, 34);
        viewIs(a, 0, 15, 0, 49, 34);
        a.moves(8, 20, 0, 44, 10);
        viewIs(a, 9, 15, 0, 49, 34);
        viewIs(a, 8, 20, 0, 44, 10);
        viewIs(a, 0, 20, 0, 44, 10);
    }

    private static void viewThatIsEmpty() {
        about("it is a box or empty");
        SceneBoxes a = sceneWith(box(10, 10, 10, 10), box(19, 19, 9, 9), box(20, 10, 5, 5), box(10, 20, 5, 5),
            box(0, 0, 11, 11), box(5, 5, 5, 64 - 5));
        for (int s = 1; s < 6; s++) {
            a.clips(s, 0);
        }
        viewIs(a, 1, 19, 19, 1, 1);
        viewIsEmpty(a, 2);
        viewIsEmpty(a, 3);
        viewIs(a, 4, 10, 10, 1, 1);
        viewIsEmpty(a, 5);
        due("hit of an empty view", a.hit(20, 10, 0), NONE);
        // The ends of the chain have points in common, but the middle has none with them.
        SceneBoxes b = sceneWith(box(0, 0, 9, 9), box(50, 50, 9, 9), box(0, 0, 64, 64));
        chain(b, 3);
        viewIsEmpty(b, 0);
        viewIs(b, 1, 50, 50, 9, 9);
    }

    /**
     * Shapes 0 to 14 are a chain of clips. The view of 0 is 2 by 2, that of all others 20 by 20; the
     * box of 15 ends where that of 0 begins, so that both together are one damaged box.
     */
    private static SceneBoxes chainBesideABox() {
        SceneBoxes a = new SceneBoxes();
        due("shape 0", a.shape(0, 0, 2, 2, 0), 0);
        for (int s = 1; s < 14; s++) {
            due("shape", a.shape(0, 0, 64, 64, 0), s);
        }
        due("shape 14", a.shape(0, 0, 20, 20, 0), 14);
        due("shape 15", a.shape(2, 0, 30, 2, 0), 15);
        chain(a, 15);
        a.drawn();
        return a;
    }

    private static void affectedShapes() {
        about("A shape is affected by a shape if it is this shape, or if its clip is affected by it.");
        for (int s = 1; s < 15; s++) {
            SceneBoxes a = chainBesideABox();
            a.lifts(15, 0);
            damageIs(a, 2, 0, 30, 2);
            a.lifts(s, 0);
            damageIs(a, 0, 0, 32, 2, 0, 0, 20, 20);
        }
        SceneBoxes b = chainBesideABox();
        b.lifts(0, 0);
        damageIs(b, 0, 0, 2, 2);
        b.drawn();
        b.lifts(14, 0);
        damageIs(b, 0, 0, 20, 20);
    }

    private static void shapes() {
        numbersOfShapes();
        levelsOfShapes();
        clipIsAnotherShape();
        noCircleOfClips();
        orderOfHeights();
        viewThroughAChain();
        viewThatIsEmpty();
        affectedShapes();
    }

    // ---- The tree

    private static void treeAtFirst() {
        about("At first the tree is a root that is a leaf without entries.");
        SceneBoxes a = new SceneBoxes();
        treeIs(a, "()");
        due("tree(0)", a.tree(0), 1);
        due("tree(1)", a.tree(1), 1);
        due("tree(2)", a.tree(2), 0);
        nodeIs(a, 0, 0, 0, 0, 0, 0, 0);
    }

    private static void sameDepth(SceneBoxes a) {
        int leaves = 0;
        int entries = 0;
        for (int i = 0; i < a.tree(0); i++) {
            if (a.node(i, 0) == a.tree(2)) {
                leaves++;
                entries += a.node(i, 1);
            }
            due("no node is deeper than the leaves", Math.max(a.node(i, 0), a.tree(2)), a.tree(2));
        }
        due("leaves at the depth of leaves", leaves, a.tree(1));
        due("entries at the depth of leaves", entries, a.told(5));
    }

    private static void depthOfLeaves() {
        about("all leaves have the same depth");
        for (int shapes = 1; shapes <= 16; shapes++) {
            sameDepth(row(shapes));
            SceneBoxes a = pile(16);
            for (int s = 0; s < shapes; s++) {
                a.removes(s);
            }
            sameDepth(a);
        }
    }

    private static void boxesOfNodes() {
        about("The box of a node is the union of the boxes of its entries.");
        SceneBoxes a = row(14);
        treeIs(a, "(((0 1 2)(3 4 5)(6 7 8))((13 12)(9 10 11)))");
        nodeIs(a, 0, 0, 2, 0, 0, 54, 2);
        nodeIs(a, 5, 1, 2, 36, 0, 18, 2);
        due("shape(60, 30, 2, 2, 0)", a.shape(60, 30, 2, 2, 0), 14);
        treeIs(a, "(((0 1 2)(3 4 5)(6 7 8))((13 12 14)(9 10 11)))");
        nodeIs(a, 0, 0, 2, 0, 0, 62, 32);
        nodeIs(a, 1, 1, 3, 0, 0, 34, 2);
        nodeIs(a, 5, 1, 2, 36, 0, 26, 32);
        nodeIs(a, 6, 2, 3, 48, 0, 14, 32);
        nodeIs(a, 7, 2, 3, 36, 0, 10, 2);
        due("removes(14)", a.removes(14), 14);
        nodeIs(a, 0, 0, 2, 0, 0, 54, 2);
        nodeIs(a, 5, 1, 2, 36, 0, 18, 2);
        nodeIs(a, 6, 2, 2, 48, 0, 6, 2);
    }

    private static void leastGrowth() {
        about("to the entry whose box has the least growth by the box of the shape");
        // The leaves would grow by 220, 100 and 132.
        SceneBoxes a = row(8);
        treeIs(a, "((0 1 2)(3 4 5)(7 6))");
        a.shape(18, 10, 2, 2, 0);
        treeIs(a, "((0 1 2)(3 4 5 8)(7 6))");
        // Two levels down: into the last leaf of the last node.
        SceneBoxes b = row(14);
        b.shape(41, 0, 2, 2, 0);
        treeIs(b, "(((0 1 2)(3 4 5)(6 7 8))((13 12)(9 10 11 14)))");
    }

    private static void leastArea() {
        about("of several the one with the least area");
        SceneBoxes a = sceneWith(box(52, 52, 4, 4), box(0, 0, 30, 30), box(0, 0, 40, 40), box(50, 50, 4, 4),
            box(20, 20, 44, 44));
        treeIs(a, "((0 3 4)(1 2))");
        // Both leaves contain it; their areas are 1936 and 1600.
        a.shape(30, 30, 2, 2, 0);
        treeIs(a, "((0 3 4)(1 2 5))");
    }

    private static void firstOfSeveral() {
        about("of several the first one");
        SceneBoxes a = sceneWith(box(0, 0, 2, 2), box(22, 0, 2, 2), box(2, 0, 2, 2), box(20, 0, 2, 2), box(1, 0, 2, 2));
        treeIs(a, "((0 2 4)(1 3))");
        // In the middle between two leaves of 4 by 2.
        a.shape(11, 0, 2, 2, 0);
        treeIs(a, "((0 2 4 5)(1 3))");
    }

    private static void lastEntry() {
        about("The shape becomes the last entry of the leaf.");
        SceneBoxes a = row(4);
        treeIs(a, "(0 1 2 3)");
        a.removes(0);
        due("shape with the lowest number", a.shape(0, 0, 2, 2, 0), 0);
        treeIs(a, "(1 2 3 0)");
    }

    private static void fiveEntries() {
        about("A node that has five entries is split");
        treeIs(pile(4), "(0 1 2 3)");
        treeIs(pile(5), "((0 2 4)(1 3))");
        // So is a node whose entries are nodes.
        treeIs(pile(10), "((0 6 8 9)(4 7)(2 5)(1 3))");
        treeIs(pile(11), "(((0 8 10)(4 7)(1 3))((6 9)(2 5)))");
    }

    private static void greatestWaste() {
        about("the one with the greatest waste is taken, of several the one with the lowest i, then the lowest j");
        // Only 3 and 4 are far from each other.
        treeIs(sceneWith(box(30, 30, 2, 2), box(29, 30, 2, 2), box(31, 30, 2, 2), box(0, 0, 2, 2), box(62, 62, 2, 2)),
            "((3 0 1)(4 2))");
        // The four corners: 0 and 3 waste as much as 1 and 2.
        treeIs(sceneWith(box(0, 0, 2, 2), box(62, 0, 2, 2), box(0, 62, 2, 2), box(62, 62, 2, 2), box(31, 31, 2, 2)),
            "((0 1 4)(3 2))");
        // 0 and 2 waste as much as 0 and 3.
        treeIs(sceneWith(box(0, 0, 2, 2), box(30, 30, 2, 2), box(62, 62, 2, 2), box(62, 62, 2, 2), box(31, 31, 2, 2)),
            "((0 1 4)(2 3))");
        // All wastes are below 0.
        treeIs(pile(5), "((0 2 4)(1 3))");
    }

    private static void firstPairOfASplit() {
        about("i becomes the only entry of the node, and j that of a new node.");
        treeIs(sceneWith(box(30, 0, 2, 2), box(62, 0, 2, 2), box(31, 0, 2, 2), box(0, 0, 2, 2), box(61, 0, 2, 2)),
            "((1 4)(3 0 2))");
    }

    private static void exactlyTwo() {
        about("if one of the two has so few entries that it would have exactly two with all entries that are still left, "
            + "of this one");
        // The last one is nearer to the other three; the two before it were not forced.
        treeIs(sceneWith(box(0, 0, 4, 4), box(60, 60, 4, 4), box(1, 0, 4, 4), box(2, 0, 4, 4), box(3, 0, 4, 4)),
            "((0 2 3)(1 4))");
        treeIs(sceneWith(box(60, 60, 4, 4), box(0, 0, 4, 4), box(1, 0, 4, 4), box(2, 0, 4, 4), box(3, 0, 4, 4)),
            "((0 4)(1 2 3))");
    }

    private static void lesserGrowth() {
        about("otherwise of the one whose box has the lesser growth by the box of the entry");
        // 2 makes the box of 0 grow from 900 to 1024, that of 1 from 4 to 961.
        treeIs(sceneWith(box(0, 0, 30, 30), box(60, 60, 2, 2), box(31, 31, 1, 1), box(60, 60, 1, 1), box(10, 10, 10, 10)),
            "((0 2 4)(1 3))");
    }

    private static void lesserArea() {
        about("then the one whose box has the lesser area");
        // 2 makes both grow by 21; their areas are 10 and 4.
        treeIs(sceneWith(box(0, 0, 10, 1), box(50, 0, 4, 1), box(29, 0, 2, 1), box(9, 0, 2, 1), box(49, 0, 2, 1)),
            "((0 3)(1 2 4))");
        treeIs(sceneWith(box(0, 0, 4, 1), box(44, 0, 10, 1), box(23, 0, 2, 1), box(3, 0, 2, 1), box(44, 0, 2, 1)),
            "((0 2 3)(1 4))");
    }

    private static void fewerEntries() {
        about("then the one with fewer entries");
        // 2 goes to the first one, so 3 goes to the second one.
        treeIs(pile(5), "((0 2 4)(1 3))");
    }

    private static void thenTheNode() {
        about("then of the node");
        // 2 is in the middle between 0 and 1, which are equally large.
        treeIs(sceneWith(box(0, 0, 2, 1), box(40, 0, 2, 1), box(20, 0, 2, 1), box(40, 0, 2, 1), box(0, 0, 2, 1)),
            "((0 2 4)(1 3))");
    }

    private static void directlyAfter() {
        about("The new node is inserted directly after the node into its parent");
        treeIs(pile(6), "((0 2 4 5)(1 3))");
        treeIs(pile(7), "((0 4 6)(2 5)(1 3))");
    }

    private static void parentIsSplit() {
        about("which is split if it has five entries then");
        treeIs(row(13), "((0 1 2)(3 4 5)(6 7 8)(10 9 11 12))");
        treeIs(row(14), "(((0 1 2)(3 4 5)(6 7 8))((13 12)(9 10 11)))");
        // Here the parent is not the root, and its new node stands directly after it.
        treeIs(pile(14), "(((0 10 12 13)(8 11)(4 7)(1 3))((6 9)(2 5)))");
        treeIs(pile(15), "(((0 12 14)(8 11)(1 3))((10 13)(4 7))((6 9)(2 5)))");
    }

    private static void rootIsSplit() {
        about("If the root is split, a new root gets the old one and the new node as its entries.");
        SceneBoxes a = row(5);
        treeIs(a, "((0 1 2)(4 3))");
        nodeIs(a, 0, 0, 2, 0, 0, 18, 2);
        SceneBoxes b = row(14);
        due("tree(2)", b.tree(2), 2);
        nodeIs(b, 0, 0, 2, 0, 0, 54, 2);
        due("node(1, 1)", b.node(1, 1), 3);
        due("node(5, 1)", b.node(5, 1), 2);
        // Roots that come after others are gone.
        SceneBoxes c = pile(15);
        c.removes(1);
        treeIs(c, "(((0 12 14 3)(8 11))((10 13)(4 7))((6 9)(2 5)))");
        c.removes(11);
        treeIs(c, "(((10 12 3)(8 14)(13 0)(4 7))((6 9)(2 5)))");
        c.removes(2);
        treeIs(c, "(((10 3 6 9)(8 14)(4 7))((12 5)(13 0)))");
        c.removes(0);
        treeIs(c, "(((10 13 5)(3 9)(4 7))((6 12)(8 14)))");
    }

    private static void fewerThanTwo() {
        about("from this leaf upward, each node except the root that has fewer than two entries is taken out of its parent");
        SceneBoxes a = pile(5);
        due("removes(0), two are left in the leaf", a.removes(0), 4);
        treeIs(a, "((2 4)(1 3))");
        due("removes(4), one is left in the leaf", a.removes(4), 3);
        treeIs(a, "(1 3 2)");
        due("removes(1)", a.removes(1), 2);
        due("removes(2), one is left in the root", a.removes(2), 1);
        treeIs(a, "(3)");
        // The leaf is taken out, and its parent has two entries still.
        SceneBoxes b = pile(11);
        due("removes(1)", b.removes(1), 10);
        treeIs(b, "(((0 8 10 3)(4 7))((6 9)(2 5)))");
        // The leaf is taken out, and then its parent, which has one entry.
        SceneBoxes c = pile(15);
        due("removes(9)", c.removes(9), 14);
        treeIs(c, "(((0 14 2 5)(12 6)(8 11)(1 3))((10 13)(4 7)))");
    }

    private static void notedInTheirOrder() {
        about("all shapes that are still below it are noted, in their order");
        // 5 is left in the leaf; then 6 and 9 are left below the parent.
        SceneBoxes a = pile(11);
        treeIs(a, "(((0 8 10)(4 7)(1 3))((6 9)(2 5)))");
        due("removes(2)", a.removes(2), 10);
        treeIs(a, "((0 10 6 9)(8 5)(4 7)(1 3))");
    }

    private static void rootWithOneEntry() {
        about("as long as the root is not a leaf and has only one entry, this entry becomes the root");
        SceneBoxes a = pile(5);
        a.removes(0);
        due("tree(2)", a.tree(2), 1);
        a.removes(2);
        due("tree(2)", a.tree(2), 0);
        due("tree(0)", a.tree(0), 1);
        SceneBoxes b = pile(11);
        due("tree(2)", b.tree(2), 2);
        b.removes(2);
        due("tree(2)", b.tree(2), 1);
        due("tree(0)", b.tree(0), 5);
        // A root that is a leaf stays, also with one entry.
        SceneBoxes c = row(2);
        c.removes(0);
        treeIs(c, "(1)");
    }

    private static void rootWithoutEntries() {
        about("if the root has no entries, the tree is an empty leaf");
        SceneBoxes a = pile(16);
        for (int s = 0; s < 16; s++) {
            due("removes(" + s + ")", a.removes(s), 15 - s);
        }
        treeIs(a, "()");
        nodeIs(a, 0, 0, 0, 0, 0, 0, 0);
        due("tree(1)", a.tree(1), 1);
        due("tree(3)", a.tree(3), 0);
        due("shape into it", a.shape(9, 9, 1, 1, 0), 0);
        nodeIs(a, 0, 0, 1, 9, 9, 1, 1);
    }

    private static void notedAreInserted() {
        about("Then the noted shapes are inserted, in the order in which they were noted.");
        // When 3 is inserted, the root is the leaf of 0 and 4 already.
        SceneBoxes a = row(5);
        a.removes(1);
        treeIs(a, "((0 2)(4 3))");
        due("removes(4)", a.removes(4), 3);
        treeIs(a, "(0 2 3)");
        // 5, 6 and 9 come in this order: 6 is the one that splits the first leaf.
        SceneBoxes b = pile(11);
        b.removes(2);
        treeIs(b, "((0 10 6 9)(8 5)(4 7)(1 3))");
    }

    private static void moveIsRemoveAndInsert() {
        about("To move a shape means to remove it and then to insert it with its new box.");
        SceneBoxes a = row(4);
        due("moves to the same box", a.moves(1, 4, 0, 2, 2), 1);
        treeIs(a, "(0 2 3 1)");
        // The noted shape comes before the moved one.
        SceneBoxes b = pile(5);
        b.removes(0);
        treeIs(b, "((2 4)(1 3))");
        due("moves out of a leaf of two", b.moves(2, 7, 7, 3, 3), 1);
        treeIs(b, "(1 3 4 2)");
        // The place in the tree is that of the new box, not of the old one.
        SceneBoxes c = row(5);
        due("moves(0, 18, 0, 2, 2)", c.moves(0, 18, 0, 2, 2), 3);
        treeIs(c, "((1 2)(4 3 0))");
    }

    private static void orderOfWalking() {
        about("The order of walking is: a node, and then its entries in their order, each with everything below it.");
        SceneBoxes a = row(14);
        int[] depths = {0, 1, 2, 2, 2, 1, 2, 2};
        int[] entries = {2, 3, 3, 3, 3, 2, 2, 3};
        int[] lefts = {0, 0, 0, 12, 24, 36, 48, 36};
        for (int i = 0; i < 8; i++) {
            nodeIs(a, i, depths[i], entries[i], lefts[i]);
        }
        due("node(8, 0)", a.node(8, 0), NO_NODE);
        walkIs(a, 0, 1, 2, 3, 4, 5, 6, 7, 8, 13, 12, 9, 10, 11);
    }

    private static void insertions() {
        treeAtFirst();
        depthOfLeaves();
        boxesOfNodes();
        leastGrowth();
        leastArea();
        firstOfSeveral();
        lastEntry();
        fiveEntries();
        greatestWaste();
        firstPairOfASplit();
        exactlyTwo();
        lesserGrowth();
        lesserArea();
        fewerEntries();
        thenTheNode();
        directlyAfter();
        parentIsSplit();
        rootIsSplit();
    }

    private static void removals() {
        fewerThanTwo();
        notedInTheirOrder();
        rootWithOneEntry();
        rootWithoutEntries();
        notedAreInserted();
        moveIsRemoveAndInsert();
        orderOfWalking();
    }

    // ---- Damage

    private static void damageAtFirst() {
        about("There is a sequence of damaged boxes, empty at first.");
        damageIs(new SceneBoxes());
    }

    private static void damageOfAShape() {
        about("When a shape is inserted by shape(), the view of it is damaged.");
        damageIs(sceneWith(box(0, 0, 1, 1), box(63, 63, 1, 1)), 0, 0, 1, 1, 63, 63, 1, 1);
    }

    private static void damageOfARemoval() {
        about("When a shape is removed by removes(), its view before is damaged.");
        SceneBoxes a = sceneWith(box(0, 0, 10, 10), box(5, 5, 20, 20), box(40, 40, 2, 2));
        a.clips(1, 0);
        a.clips(2, 0);
        a.drawn();
        a.removes(2);
        damageIs(a);
        a.removes(1);
        damageIs(a, 5, 5, 5, 5);
        a.removes(0);
        damageIs(a, 0, 0, 10, 10);
    }

    private static void damageThoughNothingChanges() {
        about("When a shape is changed by moves(), lifts() or clips(), also if everything stays as it is");
        SceneBoxes a = row(3);
        a.clips(2, 1);
        a.moves(2, 5, 1, 9, 9);
        a.drawn();
        a.moves(0, 0, 0, 2, 2);
        damageIs(a, 0, 0, 2, 2);
        a.drawn();
        a.lifts(0, 0);
        damageIs(a, 0, 0, 2, 2);
        a.drawn();
        a.clips(0, 16);
        damageIs(a, 0, 0, 2, 2);
        a.drawn();
        a.clips(2, 1);
        damageIs(a, 5, 1, 1, 1);
    }

    private static void viewsBeforeTheChange() {
        about("first the views before the change of all affected shapes are damaged, in the order of their numbers");
        // 0 is clipped by 1. Its view goes together with the box of 2 before that of 1 comes.
        SceneBoxes a = sceneWith(box(0, 0, 2, 2), box(0, 0, 20, 20), box(2, 0, 30, 2));
        a.clips(0, 1);
        a.drawn();
        a.lifts(2, 0);
        a.moves(1, 40, 40, 9, 9);
        viewIsEmpty(a, 0);
        damageIs(a, 0, 0, 32, 2, 0, 0, 20, 20, 40, 40, 9, 9);
        // The view of 0 goes together with the box of 3; after that of 1 it would go to that of 1.
        SceneBoxes b = sceneWith(box(10, 13, 5, 5), box(7, 10, 8, 11), box(7, 10, 8, 12), box(10, 4, 13, 13));
        b.clips(0, 2);
        b.clips(1, 2);
        b.drawn();
        b.lifts(3, 0);
        b.moves(2, 40, 40, 2, 2);
        damageIs(b, 10, 4, 13, 14, 7, 10, 8, 12, 40, 40, 2, 2);
    }

    private static void viewsAfterTheChange() {
        about("and then their views after the change, in the same order");
        // The same two scenes, but the views are empty at first.
        SceneBoxes a = sceneWith(box(0, 0, 2, 2), box(40, 40, 9, 9), box(2, 0, 30, 2));
        a.clips(0, 1);
        viewIsEmpty(a, 0);
        a.drawn();
        a.lifts(2, 0);
        a.moves(1, 0, 0, 20, 20);
        damageIs(a, 0, 0, 32, 2, 40, 40, 9, 9, 0, 0, 20, 20);
        SceneBoxes b = sceneWith(box(10, 13, 5, 5), box(7, 10, 8, 11), box(40, 40, 2, 2), box(10, 4, 13, 13));
        b.clips(0, 2);
        b.clips(1, 2);
        b.drawn();
        b.lifts(3, 0);
        b.moves(2, 7, 10, 8, 12);
        damageIs(b, 10, 4, 13, 14, 40, 40, 2, 2, 7, 10, 8, 12);
        // Another clip.
        SceneBoxes c = sceneWith(box(0, 0, 64, 64), box(0, 0, 2, 2), box(9, 9, 2, 2));
        c.clips(0, 1);
        c.drawn();
        c.clips(0, 2);
        damageIs(c, 0, 0, 2, 2, 9, 9, 2, 2);
    }

    private static SceneBoxes fourDamaged() {
        SceneBoxes a = sceneWith(box(0, 0, 2, 2), box(60, 0, 2, 2), box(0, 60, 2, 2), box(60, 60, 2, 2), box(30, 30, 2, 2));
        a.clips(4, 0);
        a.drawn();
        for (int s = 0; s < 4; s++) {
            a.lifts(s, 0);
        }
        return a;
    }

    private static void fourStay(SceneBoxes a) {
        damageIs(a, 0, 0, 2, 2, 60, 0, 2, 2, 0, 60, 2, 2, 60, 60, 2, 2);
    }

    private static void emptyViewChangesNothing() {
        about("An empty view, .. change nothing.");
        SceneBoxes a = fourDamaged();
        fourStay(a);
        a.lifts(4, 1);
        fourStay(a);
        a.moves(4, 20, 20, 2, 2);
        fourStay(a);
        a.removes(4);
        fourStay(a);
    }

    private static void equalBoxChangesNothing() {
        about("and a box that is exactly equal to a box of the sequence, change nothing.");
        SceneBoxes a = fourDamaged();
        for (int s = 3; s >= 0; s--) {
            a.lifts(s, 1);
            fourStay(a);
        }
    }

    private static void wasteOfAtMostZero() {
        about("as long as there are two boxes with a waste of at most 0");
        // 3 - 1 - 1 is 1.
        damageIs(sceneWith(box(0, 0, 1, 1), box(2, 0, 1, 1)), 0, 0, 1, 1, 2, 0, 1, 1);
        // 2 - 1 - 1 is 0.
        damageIs(sceneWith(box(0, 0, 1, 1), box(1, 0, 1, 1)), 0, 0, 2, 1);
        damageIs(sceneWith(box(5, 6, 1, 3), box(5, 1, 1, 5)), 5, 1, 1, 8);
        // 6 - 4 - 3 is -1.
        damageIs(sceneWith(box(0, 0, 4, 1), box(3, 0, 3, 1)), 0, 0, 6, 1);
        // One box goes together with two others, one after the other.
        damageIs(sceneWith(box(0, 0, 2, 2), box(10, 10, 2, 2), box(30, 30, 2, 2), box(0, 0, 20, 20)),
            0, 0, 20, 20, 30, 30, 2, 2);
        // It closes the gap between two boxes.
        damageIs(sceneWith(box(0, 0, 2, 2), box(4, 0, 2, 2), box(2, 0, 2, 2)), 0, 0, 6, 2);
    }

    private static void moreThanFour() {
        about("or more than four boxes");
        fourStay(fourDamaged());
        SceneBoxes a = fourDamaged();
        due("shape(40, 40, 2, 2, 0)", a.shape(40, 40, 2, 2, 0), 5);
        damageIs(a, 0, 0, 62, 2, 0, 60, 2, 2, 60, 60, 2, 2, 40, 40, 2, 2);
        due("shape(20, 20, 2, 2, 0)", a.shape(20, 20, 2, 2, 0), 6);
        due("told(6)", a.told(6), 4);
    }

    private static void leastWaste() {
        about("the two boxes with the least waste, i before j, of several those with the lowest i and then the lowest j, "
            + "are merged");
        // 2 and 4 are the nearest ones.
        damageIs(sceneWith(box(0, 0, 2, 2), box(60, 0, 2, 2), box(30, 30, 2, 2), box(0, 60, 2, 2), box(33, 33, 2, 2)),
            0, 0, 2, 2, 60, 0, 2, 2, 30, 30, 5, 5, 0, 60, 2, 2);
        // 1 and 3 waste as much as 2 and 4.
        damageIs(sceneWith(box(30, 30, 2, 2), box(0, 0, 2, 2), box(60, 0, 2, 2), box(4, 0, 2, 2), box(56, 0, 2, 2)),
            30, 30, 2, 2, 0, 0, 6, 2, 60, 0, 2, 2, 56, 0, 2, 2);
        // 1 and 2 waste as much as 1 and 3, and as 1 and 4.
        damageIs(sceneWith(box(0, 60, 2, 2), box(30, 30, 2, 2), box(34, 30, 2, 2), box(26, 30, 2, 2), box(30, 34, 2, 2)),
            0, 60, 2, 2, 30, 30, 6, 2, 26, 30, 2, 2, 30, 34, 2, 2);
    }

    private static void placeOfTheUnion() {
        about("their union takes the place of i, and j is removed");
        damageIs(sceneWith(box(0, 0, 2, 2), box(20, 0, 2, 2), box(40, 0, 2, 2), box(22, 0, 2, 2)),
            0, 0, 2, 2, 20, 0, 4, 2, 40, 0, 2, 2);
        damageIs(sceneWith(box(22, 0, 2, 2), box(0, 0, 2, 2), box(40, 0, 2, 2), box(20, 0, 2, 2)),
            20, 0, 4, 2, 0, 0, 2, 2, 40, 0, 2, 2);
    }

    private static void damages() {
        damageAtFirst();
        damageOfAShape();
        damageOfARemoval();
        damageThoughNothingChanges();
        viewsBeforeTheChange();
        viewsAfterTheChange();
        emptyViewChangesNothing();
        equalBoxChangesNothing();
        wasteOfAtMostZero();
        moreThanFour();
        leastWaste();
        placeOfTheUnion();
    }

    // ---- The text

    private static void fault(String text, int place) {
        does(new SceneBoxes(), text, -10 - place);
    }

    private static void faultless(String text, int orders) {
        SceneBoxes a = row(16);
        does(a, text, orders);
    }

    private static void roomOfTheText() {
        about("The text has at most 120 bytes.");
        SceneBoxes a = new SceneBoxes();
        type(a, "d;".repeat(59) + "d ");
        due("told(3)", a.told(3), 120);
        refused(a, FULL, "type, the 121st", () -> a.type(';'));
        due("does(), the order has no end", a.does(), -10 - 120);
        SceneBoxes b = new SceneBoxes();
        does(b, "d;".repeat(60), 60);
        refused(b, FULL, "type, the 121st", () -> b.type('x'));
        due("does() again", b.does(), 60);
    }

    private static void ordersWithSemicolons() {
        about("It consists of one or more orders, each followed by a semicolon");
        faultless("d;", 1);
        faultless("d;d;", 2);
        fault("d", 1);
        fault("d;d", 3);
        fault("dd;", 1);
        fault(";", 0);
        fault("d;;", 2);
        fault("d:", 1);
    }

    private static void numbersOfOrders() {
        about("s x y w h z (as shape()), m s x y w h (as moves()), l s z (as lifts()), c s t (as clips()), r s (as removes()) "
            + "and d (as drawn())");
        String letters = "smlcrd";
        int[] numbers = {5, 5, 2, 2, 1, 0};
        for (int k = 0; k < letters.length(); k++) {
            String order = letters.charAt(k) + " 1".repeat(numbers[k]);
            fault(order, order.length());
            fault(order + " 1;", order.length() + 1);
            fault(order + ";" + Character.toUpperCase(letters.charAt(k)), order.length() + 1);
            if (numbers[k] > 0) {
                fault(order.substring(0, order.length() - 2) + ";", order.length() - 2);
            }
        }
        for (char c = 0; c < 128; c++) {
            fault(String.valueOf(c), c == ' ' || letters.indexOf(c) >= 0 ? 1 : 0);
        }
        SceneBoxes a = row(2);
        does(a, "s 1 2 3 4 5;m 0 6 7 8 9;l 1 10;c 0 1;", 4);
        int[][] want = {{6, 7, 8, 9, 0, 1}, {4, 0, 2, 2, 10, 16}, {1, 2, 3, 4, 5, 16}};
        for (int s = 0; s < 3; s++) {
            for (int k = 0; k < 6; k++) {
                due("of(" + s + ", " + k + ")", a.of(s, k), want[s][k]);
            }
        }
        does(a, "r 2;d;", 2);
        due("told(5)", a.told(5), 2);
        due("told(6)", a.told(6), 0);
    }

    private static void digitsOfNumbers() {
        about("A number has one or two digits.");
        faultless("r5;", 1);
        faultless("r15;", 1);
        faultless("r05;", 1);
        faultless("l00 99;", 1);
        fault("r;", 1);
        fault("r015;", 3);
        fault("l-1 0;", 1);
        fault("l+1 0;", 1);
        fault("l1.0;", 2);
        fault("l1/0;", 2);
        fault("l1:0;", 2);
    }

    private static void blanks() {
        about("Blanks (byte 32) may stand anywhere except inside a number");
        faultless("   l   1   2   ;   d   ;   ", 2);
        faultless(" ".repeat(118) + "d;", 1);
        // Two digits with a blank between them are two numbers.
        fault("r1 5;", 3);
        fault("l1 5 0;", 5);
        for (int c : new int[] {0, 9, 10, 11, 13, 31, 33, 127}) {
            fault("d" + (char) c + ";", 1);
        }
    }

    private static void blanksThatAreNeeded() {
        about("they are needed only between two numbers");
        faultless("l1 2;d;r15;", 3);
        // Without a blank the two digits are one number.
        fault("l12;", 3);
        fault("l1,2;", 2);
    }

    private static void firstWrongByte() {
        about("The fault of the text is the place (counted from 0) of the first byte that cannot stand there");
        String text = "s1 2 3 4 5;d;";
        for (int place = 0; place < text.length(); place++) {
            fault(text.substring(0, place) + "?" + text.substring(place), place);
            fault(text.substring(0, place) + "??", place);
        }
        fault("d;".repeat(59) + "d?", 119);
    }

    private static void thirdDigit() {
        about("(a third digit included)");
        fault("l0 100;", 5);
        // Also where another number is due, and where all three are noughts.
        fault("l100 5;", 3);
        fault("s0 0 1 1 000;", 11);
    }

    private static void textThatEndsTooEarly() {
        about("or the length of the text if it ends too early");
        String text = "s1 2 3 4 55;";
        for (int length = 1; length < text.length(); length++) {
            fault(text.substring(0, length), length);
            fault("d;" + text.substring(0, length) + " ", length + 3);
        }
        fault("d;".repeat(59) + "d", 119);
        fault("d;".repeat(59) + " d", 120);
    }

    private static void textWithoutOrders() {
        about("(also if it is empty or consists of blanks only)");
        fault("", 0);
        fault(" ", 1);
        fault("     ", 5);
        fault(" ".repeat(120), 120);
    }

    private static void texts() {
        roomOfTheText();
        ordersWithSemicolons();
        numbersOfOrders();
        digitsOfNumbers();
        blanks();
        blanksThatAreNeeded();
        firstWrongByte();
        thirdDigit();
        textThatEndsTooEarly();
        textWithoutOrders();
    }

    // ---- States and error codes

    private static void undoneThoughNothingChanges() {
        about("The successful calls of shape(), moves(), lifts(), clips(), removes(), drawn() and does() can be undone by back(), "
            + "also if they change nothing");
        SceneBoxes a = new SceneBoxes();
        due("drawn() of nothing", a.drawn(), 0);
        due("told(4)", a.told(4), 1);
        does(a, "d;", 1);
        due("told(4)", a.told(4), 2);
        due("shape", a.shape(1, 1, 1, 1, 1), 0);
        due("told(4)", a.told(4), 3);
        due("moves to the same box", a.moves(0, 1, 1, 1, 1), 1);
        due("told(4)", a.told(4), 4);
        due("lifts to the same level", a.lifts(0, 1), 1);
        due("told(4)", a.told(4), 5);
        for (int left = 4; left >= 0; left--) {
            due("back()", a.back(), left);
            due("told(5)", a.told(5), left > 2 ? 1 : 0);
        }
        SceneBoxes b = row(2);
        due("clips to the clip that it has", b.clips(0, 16), 16);
        due("removes(1)", b.removes(1), 1);
        due("told(4)", b.told(4), 4);
        due("back()", b.back(), 3);
        due("told(5)", b.told(5), 2);
        due("back()", b.back(), 2);
        due("told(5)", b.told(5), 2);
        due("back()", b.back(), 1);
        due("told(5)", b.told(5), 1);
    }

    private static void notUndone() {
        about("The successful calls of shape(), .. and does() can be undone by back(), and no others");
        SceneBoxes a = row(2);
        type(a, "d");
        a.clear();
        a.digest();
        a.told(0);
        a.hit(0, 0, 0);
        a.of(9, 9);
        a.removes(9);
        a.does();
        due("told(4)", a.told(4), 2);
        due("back()", a.back(), 1);
        due("told(5)", a.told(5), 1);
        due("back(), though back() was the latest call", a.back(), 0);
        due("told(5)", a.told(5), 0);
    }

    private static void latestFive() {
        about("the latest 5 of them, the latest one first");
        for (int calls = 1; calls <= 9; calls++) {
            SceneBoxes a = new SceneBoxes();
            a.shape(0, 0, 1, 1, 0);
            for (int z = 1; z < calls; z++) {
                a.lifts(0, z);
            }
            int undoable = Math.min(calls, 5);
            due("told(4) after " + calls, a.told(4), undoable);
            for (int k = 1; k <= undoable; k++) {
                due("back() after " + calls, a.back(), undoable - k);
                due("of(0, 4) after " + calls + " and " + k + " back", a.of(0, 4), k == calls ? BAD : calls - 1 - k);
            }
            refused(a, NO, "back() after all", a::back);
        }
    }

    private static void badShapes() {
        about("BAD (-2): an argument is out of range, or names a shape that does not exist");
        SceneBoxes a = row(4);
        a.removes(1);
        // 1 is removed, 4 and 15 were never made.
        for (int s : new int[] {1, 4, 15, 17, -1, LOW, HIGH}) {
            refused(a, BAD, "moves of " + s, () -> a.moves(s, 0, 0, 1, 1));
            refused(a, BAD, "lifts of " + s, () -> a.lifts(s, 0));
            refused(a, BAD, "clips of " + s, () -> a.clips(s, 16));
            refused(a, BAD, "clips to " + s, () -> a.clips(0, s));
            refused(a, BAD, "removes of " + s, () -> a.removes(s));
            refused(a, BAD, "of " + s, () -> a.of(s, 0));
            refused(a, BAD, "view of " + s, () -> a.view(s, 0));
        }
    }

    private static void impossibleRequests() {
        about("NO (-3): the request is impossible, as described");
        SceneBoxes a = new SceneBoxes();
        refused(a, NO, "back() without calls", a::back);
        SceneBoxes b = row(2);
        b.clips(0, 1);
        refused(b, NO, "clips(0, 0)", () -> b.clips(0, 0));
        refused(b, NO, "clips(1, 0)", () -> b.clips(1, 0));
        refused(b, NO, "removes(1)", () -> b.removes(1));
    }

    private static void noRoom() {
        about("FULL (-4): there is no room");
        SceneBoxes a = row(16);
        type(a, "?".repeat(120));
        refused(a, FULL, "shape", () -> a.shape(63, 63, 1, 1, 0));
        refused(a, FULL, "type", () -> a.type('d'));
        a.removes(0);
        a.clear();
        due("shape, with room", a.shape(63, 63, 1, 1, 0), 0);
        due("type, with room", a.type('d'), 1);
    }

    private static void severalCodes() {
        about("If several error codes apply, the first one in this order is returned.");
        SceneBoxes a = row(16);
        type(a, " ".repeat(120));
        refused(a, BAD, "shape, BAD and FULL", () -> a.shape(0, 0, 65, 1, 0));
        refused(a, BAD, "shape, BAD by its level and FULL", () -> a.shape(0, 0, 1, 1, 100));
        refused(a, FULL, "shape, FULL", () -> a.shape(0, 0, 1, 1, 0));
        refused(a, BAD, "type, BAD and FULL", () -> a.type(128));
        refused(a, BAD, "type, BAD and FULL", () -> a.type(-1));
        refused(a, FULL, "type, FULL", () -> a.type(32));
        SceneBoxes b = row(3);
        refused(b, BAD, "clips of a missing shape to itself", () -> b.clips(5, 5));
        refused(b, BAD, "clips of -1 to itself", () -> b.clips(-1, -1));
        refused(b, BAD, "clips of 16 to 16", () -> b.clips(16, 16));
        refused(b, NO, "clips to itself", () -> b.clips(2, 2));
    }

    /** Calls for every way in which a call can be refused, in a scene with sixteen shapes and a full text. */
    private static void allRefused(SceneBoxes a) {
        refused(a, BAD, "shape", () -> a.shape(64, 0, 1, 1, 0));
        refused(a, FULL, "shape", () -> a.shape(0, 0, 1, 1, 0));
        refused(a, BAD, "moves", () -> a.moves(0, 0, 0, 0, 1));
        refused(a, BAD, "lifts", () -> a.lifts(0, 100));
        refused(a, BAD, "clips", () -> a.clips(0, 17));
        refused(a, NO, "clips", () -> a.clips(1, 0));
        refused(a, BAD, "removes", () -> a.removes(16));
        refused(a, NO, "removes", () -> a.removes(1));
        refused(a, BAD, "of", () -> a.of(0, 7));
        refused(a, BAD, "view", () -> a.view(0, 4));
        refused(a, BAD, "hit", () -> a.hit(0, 0, -1));
        refused(a, BAD, "within", () -> a.within(0, 0, 0, 0));
        refused(a, BAD, "nearest", () -> a.nearest(0, 64));
        refused(a, BAD, "damage", () -> a.damage(-1, 0));
        refused(a, BAD, "tree", () -> a.tree(4));
        refused(a, BAD, "node", () -> a.node(0, 6));
        refused(a, BAD, "walk", () -> a.walk(-1));
        refused(a, BAD, "type", () -> a.type(128));
        refused(a, FULL, "type", () -> a.type(32));
        refused(a, BAD, "told", () -> a.told(7));
    }

    private static void refusedCalls() {
        about("A call that returns an error code, queries included, changes nothing, except that it is counted, see told().");
        SceneBoxes a = row(16);
        a.clips(0, 1);
        SceneBoxes twin = row(16);
        twin.clips(0, 1);
        type(a, "l0 7;" + " ".repeat(115));
        allRefused(a);
        due("told(0)", a.told(0), 16);
        due("told(1)", a.told(1), 2);
        due("told(2)", a.told(2), 2);
        // Neither the text nor what can be undone has changed.
        due("does()", a.does(), 1);
        due("of(0, 4)", a.of(0, 4), 7);
        due("back()", a.back(), 4);
        twin.lifts(0, 7);
        twin.back();
        for (int left = 3; left >= 0; left--) {
            due("the scene", sceneSum(a), sceneSum(twin));
            due("back()", a.back(), left);
            due("back() of the twin", twin.back(), left);
        }
        due("the first scene", sceneSum(a), sceneSum(twin));
        refused(a, NO, "back()", a::back);
    }

    private static void nothingIsCountedInDoes() {
        about("In does() nothing is counted.");
        SceneBoxes a = row(16);
        a.clips(0, 1);
        String[] texts = {"l0 5;l16 0;", "d;c1 0;", "r1;", "s0 0 1 1 0;", "s0 0 65 1 0;", "?", ""};
        int[] want = {-1001, -1001, -1000, -1000, -1000, -10, -10};
        for (int k = 0; k < texts.length; k++) {
            type(a, texts[k]);
            answered(a, want[k], "does() of '" + texts[k] + "'", a::does);
        }
        for (int what = 0; what < 3; what++) {
            due("told(" + what + ")", a.told(what), 0);
        }
    }

    private static void noneIsNoErrorCode() {
        about("NONE (-1) is not an error code");
        SceneBoxes a = new SceneBoxes();
        answered(a, NONE, "hit", () -> a.hit(0, 0, 0));
        answered(a, NONE, "nearest", () -> a.nearest(0, 0));
        answered(a, NONE, "damage", () -> a.damage(0, 0));
        answered(a, NONE, "walk", () -> a.walk(0));
        SceneBoxes b = row(2);
        b.clips(0, 1);
        answered(b, NONE, "view", () -> b.view(0, 0));
    }

    private static void noneOnlyWithoutErrorCodes() {
        about("and it is returned only if no error code applies");
        SceneBoxes a = new SceneBoxes();
        refused(a, BAD, "hit(64, 0, 0)", () -> a.hit(64, 0, 0));
        refused(a, BAD, "hit(0, -1, 9)", () -> a.hit(0, -1, 9));
        refused(a, BAD, "hit(0, 0, -1)", () -> a.hit(0, 0, -1));
        refused(a, BAD, "nearest(-1, 0)", () -> a.nearest(-1, 0));
        refused(a, BAD, "nearest(0, 64)", () -> a.nearest(0, 64));
        refused(a, BAD, "damage(0, 4)", () -> a.damage(0, 4));
        refused(a, BAD, "damage(HIGH, -1)", () -> a.damage(HIGH, -1));
        refused(a, BAD, "damage(-1, 0)", () -> a.damage(-1, 0));
        refused(a, BAD, "walk(-1)", () -> a.walk(-1));
        SceneBoxes b = row(2);
        b.clips(0, 1);
        refused(b, BAD, "view(0, 4), empty", () -> b.view(0, 4));
        refused(b, BAD, "view(0, -1), empty", () -> b.view(0, -1));
    }

    private static void states() {
        undoneThoughNothingChanges();
        notUndone();
        latestFive();
        badShapes();
        impossibleRequests();
        noRoom();
        severalCodes();
        refusedCalls();
        nothingIsCountedInDoes();
        noneIsNoErrorCode();
        noneOnlyWithoutErrorCodes();
    }

    public static void main(String[] args) {
        callsOfAnObject();
        boxes();
        shapes();
        insertions();
        removals();
        damages();
        texts();
        states();
        end("the boundary cases of the description hold");
    }
}
