/** A group of calls for each promise of the document: ordinary inputs, edges and wrong inputs. */
public final class PromisesTest extends Checks {
    private static void newObject() {
        SceneBoxes x = new SceneBoxes();
        for (int k = 0; k < 7; k++) due("told(" + k + ")", x.told(k), 0);
        long h = 1757;
        int[] values = {0, 0, 0, 0, 0, 0, 0, 1, 1, 0, 0, 0, 0, 0, 0, 0, 0};
        for (int v : values) h = 31 * h + v;
        due("digest()", x.digest(), h);
        due("of(0, 0)", x.of(0, 0), BAD);
        due("clear()", x.clear(), 0);
        due("back()", x.back(), NO);
        SceneBoxes y = new SceneBoxes();
        x.shape(0, 0, 1, 1, 0);
        due("told(0) of another object", y.told(0), 0);
        due("told(5) of another object", y.told(5), 0);
        due("digest() of another object", y.digest(), h);
    }

    private static void shape() {
        SceneBoxes x = new SceneBoxes();
        int[][] bad = {{-1, 0, 1, 1, 0}, {64, 0, 1, 1, 0}, {0, -1, 1, 1, 0}, {0, 64, 1, 1, 0}, {0, 0, 0, 1, 0},
            {0, 0, 65, 1, 0}, {0, 0, 1, 0, 0}, {0, 0, 1, 65, 0}, {1, 0, 64, 1, 0}, {0, 1, 1, 64, 0}, {63, 0, 2, 1, 0},
            {0, 63, 1, 2, 0}, {0, 0, 1, 1, -1}, {0, 0, 1, 1, 100}, {HIGH, 0, 1, 1, 0}, {0, HIGH, 1, 1, 0},
            {1, 0, HIGH, 1, 0}, {0, 1, 1, HIGH, 0}, {LOW, LOW, LOW, LOW, LOW}, {0, 0, LOW, 1, 0}, {0, 0, 1, 1, HIGH}};
        for (int[] b : bad) due("shape, wrong", x.shape(b[0], b[1], b[2], b[3], b[4]), BAD);
        due("told(0)", x.told(0), bad.length);
        due("told(4)", x.told(4), 0);
        due("shape(0, 0, 64, 64, 99)", x.shape(0, 0, 64, 64, 99), 0);
        due("shape(63, 63, 1, 1, 0)", x.shape(63, 63, 1, 1, 0), 1);
        due("of(0, 2)", x.of(0, 2), 64);
        due("of(0, 4)", x.of(0, 4), 99);
        due("of(1, 5)", x.of(1, 5), 16);
        due("told(4)", x.told(4), 2);

        x = row(16);
        long before = x.digest();
        due("shape, the 17th and wrong", x.shape(0, 0, 0, 1, 0), BAD);
        due("shape, the 17th", x.shape(0, 0, 1, 1, 0), FULL);
        due("told(2)", x.told(2), 1);
        due("told(5)", x.told(5), 16);
        due("digest() has changed by its counts", before == x.digest() ? 1 : 0, 0);
        due("removes(9)", x.removes(9), 15);
        due("removes(3)", x.removes(3), 14);
        due("shape, the lowest free one", x.shape(0, 9, 1, 1, 7), 3);
        due("shape, the next free one", x.shape(0, 9, 1, 1, 7), 9);
        due("back()", x.back(), 4);
        due("of(9, 0)", x.of(9, 0), BAD);
        due("of(3, 4)", x.of(3, 4), 7);

        // A number that was used before comes without the clip and the level that it had.
        x = row(3);
        x.clips(2, 0);
        x.removes(2);
        due("shape with an old number", x.shape(5, 5, 1, 1, 1), 2);
        due("of(2, 5)", x.of(2, 5), 16);
        due("of(0, 6)", x.of(0, 6), 0);
    }

    private static void moves() {
        SceneBoxes x = row(3);
        int[][] bad = {{-1, 0, 0, 1, 1}, {3, 0, 0, 1, 1}, {16, 0, 0, 1, 1}, {LOW, 0, 0, 1, 1}, {HIGH, 0, 0, 1, 1},
            {0, -1, 0, 1, 1}, {0, 0, 64, 1, 1}, {0, 0, 0, 0, 1}, {0, 0, 0, 1, 65}, {0, 63, 0, 2, 1}, {0, 1, 0, HIGH, 1}};
        for (int[] b : bad) due("moves, wrong", x.moves(b[0], b[1], b[2], b[3], b[4]), BAD);
        due("told(0)", x.told(0), bad.length);
        due("told(4)", x.told(4), 3);
        x.drawn();
        due("moves(0, 30, 30, 5, 6)", x.moves(0, 30, 30, 5, 6), 1);
        for (int k = 0; k < 4; k++) due("of(0, k)", x.of(0, k), new int[] {30, 30, 5, 6}[k]);
        walkIs(x, 1, 2, 0);
        damageIs(x, 0, 0, 2, 2, 30, 30, 5, 6);

        // To the same box: the shape is last then, its box is damaged, and the call can be undone.
        x.drawn();
        due("moves to the same box", x.moves(1, 4, 0, 2, 2), 1);
        walkIs(x, 2, 0, 1);
        damageIs(x, 4, 0, 2, 2);
        due("back()", x.back(), 4);
        walkIs(x, 1, 2, 0);

        // The views of what it clips are damaged, before and after.
        x = new SceneBoxes();
        x.shape(0, 0, 20, 20, 0);
        x.shape(10, 10, 30, 4, 0);
        x.shape(0, 40, 2, 2, 0);
        x.clips(1, 0);
        x.drawn();
        due("moves of a clip", x.moves(0, 40, 0, 20, 14), 1);
        due("view(1, 0)", x.view(1, 0), NONE);
        damageIs(x, 0, 0, 20, 20, 40, 0, 20, 14);
        due("moves of a clip", x.moves(0, 30, 0, 5, 20), 1);
        viewIs(x, 1, 30, 10, 5, 4);

        // A leaf that is left with one entry is dissolved before the shape comes back.
        x = new SceneBoxes();
        x.shape(0, 0, 2, 2, 0);
        x.shape(60, 60, 2, 2, 0);
        x.shape(2, 0, 2, 2, 0);
        x.shape(58, 60, 2, 2, 0);
        x.shape(4, 0, 2, 2, 0);
        walkIs(x, 0, 2, 4, 1, 3);
        due("moves into the other leaf", x.moves(2, 56, 60, 2, 2), 3);
        walkIs(x, 0, 4, 1, 3, 2);
        due("moves(4, 54, 60, 2, 2)", x.moves(4, 54, 60, 2, 2), 3);
        walkIs(x, 1, 3, 2, 0, 4);
    }

    private static void lifts() {
        SceneBoxes x = row(2);
        int[][] bad = {{-1, 0}, {2, 0}, {16, 0}, {HIGH, 0}, {LOW, 0}, {0, -1}, {0, 100}, {0, HIGH}, {0, LOW}};
        for (int[] b : bad) due("lifts, wrong", x.lifts(b[0], b[1]), BAD);
        due("told(0)", x.told(0), bad.length);
        due("lifts(0, 99)", x.lifts(0, 99), 0);
        due("lifts(0, 0)", x.lifts(0, 0), 99);
        due("of(0, 4)", x.of(0, 4), 0);
        due("told(4)", x.told(4), 4);
        x.clips(1, 0);
        x.moves(1, 1, 1, 9, 9);
        x.drawn();
        due("lifts to the same level", x.lifts(0, 0), 0);
        damageIs(x, 0, 0, 2, 2);
        x.drawn();
        due("lifts what is clipped", x.lifts(1, 5), 0);
        damageIs(x, 1, 1, 1, 1);
        due("back()", x.back(), 4);
        due("of(1, 4)", x.of(1, 4), 0);
        damageIs(x);
        walkIs(x, 0, 1);
    }

    private static void clips() {
        SceneBoxes x = row(5);
        int[][] bad = {{-1, 16}, {5, 16}, {16, 16}, {HIGH, 16}, {LOW, 0}, {0, -1}, {0, 5}, {0, 17}, {0, HIGH}, {0, LOW}, {7, 7}};
        for (int[] b : bad) due("clips, wrong", x.clips(b[0], b[1]), BAD);
        due("told(0)", x.told(0), bad.length);
        due("clips(0, 0)", x.clips(0, 0), NO);
        due("clips(1, 0)", x.clips(1, 0), 16);
        due("clips(2, 1)", x.clips(2, 1), 16);
        due("clips(3, 2)", x.clips(3, 2), 16);
        due("clips(0, 1)", x.clips(0, 1), NO);
        due("clips(0, 3)", x.clips(0, 3), NO);
        due("clips(1, 3)", x.clips(1, 3), NO);
        due("told(1)", x.told(1), 4);
        due("clips(0, 4)", x.clips(0, 4), 16);
        due("clips(4, 3)", x.clips(4, 3), NO);
        due("clips(3, 1)", x.clips(3, 1), 2);
        due("clips(3, 1) again", x.clips(3, 1), 1);
        due("clips(3, 16)", x.clips(3, 16), 1);
        due("clips(3, 16) again", x.clips(3, 16), 16);
        due("told(4)", x.told(4), 5);

        // Damage: the views before, by number, then the views after, by number.
        x = new SceneBoxes();
        x.shape(0, 0, 4, 4, 0);
        x.shape(20, 0, 4, 4, 0);
        x.shape(22, 2, 20, 20, 0);
        x.clips(1, 2);
        x.clips(0, 1);
        x.drawn();
        due("clips(2, 16) of a clip", x.clips(2, 16), 16);
        damageIs(x, 22, 2, 20, 20);
        x.moves(0, 23, 3, 10, 10);
        x.drawn();
        due("clips(1, 16)", x.clips(1, 16), 2);
        // 0: 23 3 1 1; 1: 22 2 2 2; then 0: the same; 1: 20 0 4 4.
        damageIs(x, 20, 0, 4, 4);
        due("back()", x.back(), 4);
        due("of(1, 5)", x.of(1, 5), 2);

        // A view that becomes empty is damaged as it was before, and as it is when it comes back.
        x = row(2);
        x.drawn();
        due("clips(1, 0), apart", x.clips(1, 0), 16);
        damageIs(x, 4, 0, 2, 2);
        x.drawn();
        due("clips(1, 16)", x.clips(1, 16), 0);
        damageIs(x, 4, 0, 2, 2);
    }

    private static void removes() {
        SceneBoxes x = row(3);
        int[] bad = {-1, 3, 15, 16, HIGH, LOW};
        for (int s : bad) due("removes(" + s + ")", x.removes(s), BAD);
        due("told(0)", x.told(0), bad.length);
        x.clips(0, 1);
        due("removes(1), a clip", x.removes(1), NO);
        due("told(1)", x.told(1), 1);
        x.drawn();
        due("removes(0), with an empty view", x.removes(0), 2);
        damageIs(x);
        due("of(0, 0)", x.of(0, 0), BAD);
        due("removes(0) again", x.removes(0), BAD);
        due("removes(1), a clip no more", x.removes(1), 1);
        damageIs(x, 4, 0, 2, 2);
        due("removes(2)", x.removes(2), 0);
        due("tree(0)", x.tree(0), 1);
        due("node(0, 1)", x.node(0, 1), 0);
        due("node(0, 2)", x.node(0, 2), 0);
        due("back()", x.back(), 4);
        due("of(2, 0)", x.of(2, 0), 8);
        walkIs(x, 2);

        x = new SceneBoxes();
        x.shape(0, 0, 10, 10, 0);
        x.shape(5, 5, 20, 20, 0);
        x.clips(1, 0);
        x.drawn();
        due("removes(1), clipped", x.removes(1), 1);
        damageIs(x, 5, 5, 5, 5);
    }

    private static void drawn() {
        SceneBoxes x = new SceneBoxes();
        due("drawn()", x.drawn(), 0);
        due("told(4)", x.told(4), 1);
        x.shape(0, 0, 2, 2, 0);
        x.shape(9, 9, 2, 2, 0);
        due("drawn()", x.drawn(), 2);
        damageIs(x);
        due("told(5)", x.told(5), 2);
        due("back()", x.back(), 3);
        damageIs(x, 0, 0, 2, 2, 9, 9, 2, 2);
        due("drawn()", x.drawn(), 2);
        due("drawn()", x.drawn(), 0);
    }

    private static void of() {
        SceneBoxes x = new SceneBoxes();
        x.shape(1, 2, 3, 4, 5);
        x.shape(6, 7, 8, 9, 10);
        x.shape(0, 0, 1, 1, 0);
        x.clips(0, 1);
        x.clips(2, 1);
        int[][] want = {{1, 2, 3, 4, 5, 1, 0}, {6, 7, 8, 9, 10, 16, 2}, {0, 0, 1, 1, 0, 1, 0}};
        for (int s = 0; s < 3; s++) {
            for (int k = 0; k < 7; k++) due("of(" + s + ", " + k + ")", x.of(s, k), want[s][k]);
        }
        int[][] bad = {{0, -1}, {0, 7}, {3, 0}, {-1, 0}, {15, 6}, {16, 0}, {HIGH, 0}, {LOW, 0}, {0, HIGH}, {0, LOW}};
        for (int[] b : bad) due("of, wrong", x.of(b[0], b[1]), BAD);
        due("told(0)", x.told(0), bad.length);
    }

    private static void view() {
        SceneBoxes x = new SceneBoxes();
        x.shape(0, 0, 20, 30, 0);
        x.shape(10, 5, 20, 20, 0);
        x.shape(5, 12, 30, 3, 0);
        viewIs(x, 2, 5, 12, 30, 3);
        x.clips(2, 1);
        viewIs(x, 2, 10, 12, 20, 3);
        x.clips(1, 0);
        viewIs(x, 2, 10, 12, 10, 3);
        viewIs(x, 1, 10, 5, 10, 20);
        x.moves(0, 0, 0, 11, 13);
        viewIs(x, 2, 10, 12, 1, 1);
        x.moves(0, 0, 0, 10, 13);
        for (int k = 0; k < 4; k++) due("view, empty", x.view(2, k), NONE);
        due("view, empty and wrong", x.view(2, 4), BAD);
        // Empty in the middle of a chain, though the ends have points in common.
        x.clips(0, 16);
        x.moves(0, 0, 0, 64, 64);
        x.moves(1, 50, 50, 4, 4);
        due("view through an empty middle", x.view(2, 0), NONE);
        int[][] bad = {{0, -1}, {3, 0}, {-1, 0}, {16, 0}, {HIGH, 0}, {LOW, 0}, {0, HIGH}, {0, LOW}};
        for (int[] b : bad) due("view, wrong", x.view(b[0], b[1]), BAD);
        due("told(0)", x.told(0), bad.length + 1);
    }

    private static void hit() {
        SceneBoxes x = new SceneBoxes();
        x.shape(10, 10, 10, 10, 5);
        x.shape(10, 10, 10, 10, 5);
        x.shape(10, 10, 10, 10, 6);
        x.shape(10, 10, 10, 10, 4);
        int[] want = {2, 1, 0, 3};
        for (int i = 0; i < 4; i++) due("hit(12, 12, " + i + ")", x.hit(12, 12, i), want[i]);
        due("hit(12, 12, 4)", x.hit(12, 12, 4), NONE);
        due("hit(12, 12, HIGH)", x.hit(12, 12, HIGH), NONE);
        due("hit(10, 10, 0)", x.hit(10, 10, 0), 2);
        due("hit(19, 19, 0)", x.hit(19, 19, 0), 2);
        due("hit(9, 10, 0)", x.hit(9, 10, 0), NONE);
        due("hit(20, 19, 0)", x.hit(20, 19, 0), NONE);
        due("hit(19, 20, 0)", x.hit(19, 20, 0), NONE);
        due("hit(10, 9, 0)", x.hit(10, 9, 0), NONE);
        x.shape(0, 0, 11, 11, 0);
        x.clips(2, 4);
        due("hit through a clip", x.hit(10, 10, 0), 2);
        due("hit outside a clip", x.hit(11, 11, 0), 1);
        due("hit(63, 63, 0)", x.hit(63, 63, 0), NONE);
        due("hit(0, 0, 0)", x.hit(0, 0, 0), 4);
        int[][] bad = {{-1, 0, 0}, {64, 0, 0}, {0, -1, 0}, {0, 64, 0}, {0, 0, -1}, {HIGH, 0, 0}, {0, LOW, 0}, {0, 0, LOW}};
        for (int[] b : bad) due("hit, wrong", x.hit(b[0], b[1], b[2]), BAD);
        due("told(0)", x.told(0), bad.length);
        SceneBoxes all = new SceneBoxes();
        for (int s = 0; s < 16; s++) all.shape(0, 0, 64, 64, 0);
        due("hit of the lowest of sixteen", all.hit(63, 0, 15), 0);
        due("hit below the lowest", all.hit(63, 0, 16), NONE);
    }

    private static void within() {
        SceneBoxes x = new SceneBoxes();
        x.shape(10, 10, 5, 5, 0);
        x.shape(30, 30, 5, 5, 0);
        x.clips(1, 0);
        due("within, all", x.within(0, 0, 64, 64), 2);
        due("within, beside", x.within(0, 10, 10, 5), 0);
        due("within, one column", x.within(0, 10, 11, 1), 1);
        due("within, right of it", x.within(15, 10, 5, 5), 0);
        due("within, last column", x.within(14, 14, 1, 1), 1);
        due("within, below it", x.within(10, 15, 5, 5), 0);
        due("within, though clipped away", x.within(34, 34, 1, 1), 1);
        int[][] bad = {{-1, 0, 1, 1}, {64, 0, 1, 1}, {0, 64, 1, 1}, {0, 0, 0, 1}, {0, 0, 1, 0}, {1, 0, 64, 1},
            {0, 1, 1, 64}, {0, 0, HIGH, 1}, {1, 1, HIGH, HIGH}, {LOW, 0, 1, 1}};
        for (int[] b : bad) due("within, wrong", x.within(b[0], b[1], b[2], b[3]), BAD);
        due("told(0)", x.told(0), bad.length);
        due("within of an empty scene", new SceneBoxes().within(63, 63, 1, 1), 0);
    }

    private static void nearest() {
        SceneBoxes x = new SceneBoxes();
        due("nearest of an empty scene", x.nearest(0, 0), NONE);
        x.shape(10, 10, 5, 5, 9);
        x.shape(20, 10, 5, 5, 0);
        // From 17 it is 3 to 14 and 3 to 20.
        due("nearest(17, 12), equally far", x.nearest(17, 12), 0);
        due("nearest(18, 12)", x.nearest(18, 12), 1);
        due("nearest(16, 12)", x.nearest(16, 12), 0);
        x.lifts(0, 0);
        due("nearest(17, 12), equal levels", x.nearest(17, 12), 1);
        x.shape(12, 0, 2, 2, 0);
        // From (16, 5): 0 is at 2, 5; 1 at 4, 5; 2 at 3, 4.
        due("nearest(16, 5), by both distances", x.nearest(16, 5), 2);
        due("nearest(13, 13), inside", x.nearest(13, 13), 0);
        // From (14, 5): 0 is at 0, 5; 2 at 1, 4. From (13, 5): 2 is at 0, 4. From (13, 6): both at 0, 4 and 0, 5.
        due("nearest(14, 5), above", x.nearest(14, 5), 2);
        due("nearest(13, 6), below the one, above the other", x.nearest(13, 6), 0);
        due("nearest(22, 20), below", x.nearest(22, 20), 1);
        x.shape(11, 11, 1, 1, 50);
        due("nearest(11, 11), inside both", x.nearest(11, 11), 3);
        x.clips(3, 2);
        due("nearest, whatever the clip", x.nearest(11, 11), 3);
        due("nearest(63, 63)", x.nearest(63, 63), 1);
        int[][] bad = {{-1, 0}, {64, 0}, {0, -1}, {0, 64}, {HIGH, 0}, {0, LOW}};
        for (int[] b : bad) due("nearest, wrong", x.nearest(b[0], b[1]), BAD);
        due("told(0)", x.told(0), bad.length);
    }

    private static void damage() {
        SceneBoxes x = new SceneBoxes();
        due("damage(0, 0)", x.damage(0, 0), NONE);
        x.shape(0, 0, 4, 4, 0);
        x.shape(4, 0, 4, 4, 0);
        damageIs(x, 0, 0, 8, 4);
        x.shape(2, 1, 3, 2, 0);
        damageIs(x, 0, 0, 8, 4);
        x.shape(0, 0, 8, 4, 0);
        damageIs(x, 0, 0, 8, 4);
        // Overlaps in a corner: a waste of 6 * 6 - 32 = 4 stays, 6 * 5 - 32 = -2 is merged.
        x.drawn();
        x.shape(10, 10, 4, 4, 0);
        x.shape(12, 12, 4, 4, 0);
        damageIs(x, 10, 10, 4, 4, 12, 12, 4, 4);
        x.shape(12, 11, 4, 4, 0);
        damageIs(x, 10, 10, 6, 6);

        // More than four: the least waste, of several the lowest i and then the lowest j.
        x = new SceneBoxes();
        x.shape(0, 0, 2, 2, 0);
        x.shape(20, 0, 2, 2, 0);
        x.shape(40, 0, 2, 2, 0);
        x.shape(0, 20, 2, 2, 0);
        damageIs(x, 0, 0, 2, 2, 20, 0, 2, 2, 40, 0, 2, 2, 0, 20, 2, 2);
        x.shape(20, 20, 2, 2, 0);
        damageIs(x, 0, 0, 22, 2, 40, 0, 2, 2, 0, 20, 2, 2, 20, 20, 2, 2);
        x.shape(40, 20, 2, 2, 0);
        // Four pairs waste 36, 0 and 1 among them.
        damageIs(x, 0, 0, 42, 2, 0, 20, 2, 2, 20, 20, 2, 2, 40, 20, 2, 2);

        // The two nearest ones are in the middle and at the end.
        x = new SceneBoxes();
        x.shape(0, 0, 2, 2, 0);
        x.shape(60, 0, 2, 2, 0);
        x.shape(30, 30, 2, 2, 0);
        x.shape(0, 60, 2, 2, 0);
        x.shape(33, 33, 2, 2, 0);
        damageIs(x, 0, 0, 2, 2, 60, 0, 2, 2, 30, 30, 5, 5, 0, 60, 2, 2);

        // One box that swallows two others, one after the other.
        x = new SceneBoxes();
        x.shape(0, 0, 2, 2, 0);
        x.shape(10, 10, 2, 2, 0);
        x.shape(30, 30, 2, 2, 0);
        x.shape(0, 0, 20, 20, 0);
        damageIs(x, 0, 0, 20, 20, 30, 30, 2, 2);
        due("damage(HIGH, 3)", x.damage(HIGH, 3), NONE);
        int[][] bad = {{-1, 0}, {0, -1}, {0, 4}, {LOW, 0}, {0, HIGH}, {0, LOW}, {9, 4}};
        for (int[] b : bad) due("damage, wrong", x.damage(b[0], b[1]), BAD);
        due("told(0)", x.told(0), bad.length);
    }

    private static void tree() {
        SceneBoxes x = new SceneBoxes();
        int[] empty = {1, 1, 0, 0};
        for (int k = 0; k < 4; k++) due("tree(" + k + "), empty", x.tree(k), empty[k]);
        x = row(5);
        int[] five = {3, 2, 1, 32};
        for (int k = 0; k < 4; k++) due("tree(" + k + "), five in a row", x.tree(k), five[k]);
        walkIs(x, 0, 1, 2, 4, 3);
        x = row(16);
        due("tree(2), sixteen in a row", x.tree(2), 2);
        int[] bad = {-1, 4, HIGH, LOW};
        for (int k : bad) due("tree(" + k + ")", x.tree(k), BAD);
        due("told(0)", x.told(0), bad.length);

        // Five equal boxes: the first pair, then by the number of entries, then to the node.
        x = new SceneBoxes();
        for (int s = 0; s < 5; s++) x.shape(7, 7, 3, 3, 0);
        walkIs(x, 0, 2, 4, 1, 3);
        due("node(1, 1)", x.node(1, 1), 3);
        // The next equal one goes to the first leaf, and the next one splits it.
        x.shape(7, 7, 3, 3, 0);
        walkIs(x, 0, 2, 4, 5, 1, 3);
        x.shape(7, 7, 3, 3, 0);
        walkIs(x, 0, 4, 6, 2, 5, 1, 3);
        due("tree(1)", x.tree(1), 3);
        due("node(2, 1), the new node directly after", x.node(2, 1), 2);

        // Least growth 0 in both leaves: the one with the lesser area, though it is the second one.
        x = new SceneBoxes();
        x.shape(52, 52, 4, 4, 0);
        x.shape(0, 0, 30, 30, 0);
        x.shape(0, 0, 40, 40, 0);
        x.shape(50, 50, 4, 4, 0);
        x.shape(20, 20, 44, 44, 0);
        walkIs(x, 0, 3, 4, 1, 2);
        x.shape(30, 30, 2, 2, 0);
        walkIs(x, 0, 3, 4, 1, 2, 5);

        // Equal growth in a split: to the one with the lesser area, here the new node.
        x = new SceneBoxes();
        x.shape(0, 0, 10, 1, 0);
        x.shape(50, 0, 4, 1, 0);
        x.shape(29, 0, 2, 1, 0);
        x.shape(9, 0, 2, 1, 0);
        x.shape(49, 0, 2, 1, 0);
        walkIs(x, 0, 3, 1, 2, 4);

        // Three leaves that would grow by 220, 100 and 132.
        x = row(8);
        walkIs(x, 0, 1, 2, 3, 4, 5, 7, 6);
        x.shape(18, 10, 2, 2, 0);
        walkIs(x, 0, 1, 2, 3, 4, 5, 8, 7, 6);

        // The last entry is forced: two far ones and three that all grow the first one less.
        x = new SceneBoxes();
        x.shape(0, 0, 4, 4, 0);
        x.shape(60, 60, 4, 4, 0);
        x.shape(1, 0, 4, 4, 0);
        x.shape(2, 0, 4, 4, 0);
        x.shape(3, 0, 4, 4, 0);
        walkIs(x, 0, 2, 3, 1, 4);
        due("tree(3)", x.tree(3), 24 + 61 * 64);
    }

    private static void node() {
        SceneBoxes x = new SceneBoxes();
        for (int k = 0; k < 6; k++) due("node(0, " + k + "), empty", x.node(0, k), 0);
        due("node(1, 0), empty", x.node(1, 0), -5);
        x.shape(3, 4, 5, 6, 0);
        int[] one = {0, 1, 3, 4, 5, 6};
        for (int k = 0; k < 6; k++) due("node(0, " + k + ")", x.node(0, k), one[k]);
        x = row(5);
        int[][] want = {{0, 2, 0, 0, 18, 2}, {1, 3, 0, 0, 10, 2}, {1, 2, 12, 0, 6, 2}};
        for (int i = 0; i < 3; i++) {
            for (int k = 0; k < 6; k++) due("node(" + i + ", " + k + ")", x.node(i, k), want[i][k]);
        }
        due("node(3, 5)", x.node(3, 5), -5);
        // The boxes above a leaf grow and shrink with it.
        x.shape(18, 5, 2, 2, 0);
        due("node(0, 4)", x.node(0, 4), 20);
        due("node(0, 5)", x.node(0, 5), 7);
        due("node(2, 5)", x.node(2, 5), 7);
        due("removes(5)", x.removes(5), 5);
        due("node(0, 5)", x.node(0, 5), 2);
        due("node(2, 4)", x.node(2, 4), 6);
        due("node(HIGH, 0)", x.node(HIGH, 0), -5);
        due("told(0)", x.told(0), 0);
        int[][] bad = {{-1, 0}, {0, -1}, {0, 6}, {LOW, 0}, {0, HIGH}, {9, 6}, {0, LOW}};
        for (int[] b : bad) due("node, wrong", x.node(b[0], b[1]), BAD);
        due("told(0)", x.told(0), bad.length);
    }

    private static void walking() {
        SceneBoxes x = new SceneBoxes();
        walkIs(x);
        x.shape(0, 0, 1, 1, 0);
        x.shape(9, 9, 1, 1, 0);
        walkIs(x, 0, 1);
        x.moves(0, 0, 0, 1, 1);
        walkIs(x, 1, 0);
        due("walk(HIGH)", x.walk(HIGH), NONE);
        due("walk(-1)", x.walk(-1), BAD);
        due("walk(LOW)", x.walk(LOW), BAD);
        due("told(0)", x.told(0), 2);

        // Sixteen shapes in three levels; removing one dissolves a leaf and the node above it.
        x = new SceneBoxes();
        for (int s = 0; s < 16; s++) x.shape(10 * (s % 6), 30 * (s / 6), 2, 2, 0);
        due("tree(0)", x.tree(0), 8);
        due("tree(2)", x.tree(2), 2);
        int before = 16;
        for (int s = 0; s < 14; s++) {
            before--;
            due("removes(" + s + ")", x.removes(s), before);
            boolean[] seen = new boolean[16];
            for (int i = 0; i < before; i++) {
                int t = x.walk(i);
                due("walk meets a shape once", t >= 0 && t < 16 && !seen[t] && x.of(t, 0) >= 0 ? 1 : 0, 1);
                if (t >= 0 && t < 16) seen[t] = true;
            }
            due("walk behind the end", x.walk(before), NONE);
        }
        walkIs(x, 14, 15);
    }

    private static void typing() {
        SceneBoxes x = new SceneBoxes();
        due("type(0)", x.type(0), 1);
        due("type(127)", x.type(127), 2);
        int[] bad = {-1, 128, 256, HIGH, LOW};
        for (int c : bad) due("type(" + c + ")", x.type(c), BAD);
        due("told(0)", x.told(0), bad.length);
        for (int k = 3; k <= 120; k++) due("type(32)", x.type(32), k);
        due("type, too many", x.type(32), FULL);
        due("type, too many and wrong", x.type(128), BAD);
        due("told(2)", x.told(2), 1);
        due("told(3)", x.told(3), 120);
        due("told(4)", x.told(4), 0);
        due("does(), byte 0", x.does(), -10);
    }

    private static void clearing() {
        SceneBoxes x = new SceneBoxes();
        due("clear(), empty", x.clear(), 0);
        type(x, "d;d;");
        due("clear()", x.clear(), 4);
        due("clear() again", x.clear(), 0);
        due("told(3)", x.told(3), 0);
        due("told(4)", x.told(4), 0);
        due("type after clear", x.type('d'), 1);
        due("does()", x.does(), -11);
    }

    private static void doing() {
        SceneBoxes x = new SceneBoxes();
        String[] texts = {"", "   ", "d", "d;", " d ; d;  ", "dd;", ";", "d;;", "d; x", "D;", "l0 100;", "l01 5", "l012 5;",
            "s1 2 3 4;", "s1 2 3 4 5 6;", "s1 2 3 4 5", "s 1 2 3 4 5 ;d", "r1 2;", "r;", "r 1 s", "l 1d", "l 1;", "d1;", "1;",
            "l-1 2;", "c0,1;", "s\t1", "r0;5", "d;r", "d;r ", "d;r 1 ", "d 0;", "m0 0 0 1;", "l1 2 3;", "c0 016;", "s0 0 1 1 0;s"};
        int[] faults = {0, 3, 1, -1, -1, 1, 0, 2, 3, 0, 5, 5, 3,
            8, 11, 10, 14, 3, 1, 4, 3, 3, 1, 0,
            1, 2, 1, 3, 3, 4, 6, 2, 8, 5, 5, 12};
        for (int k = 0; k < texts.length; k++) {
            type(x, texts[k]);
            int want = faults[k] >= 0 ? -10 - faults[k] : texts[k].replaceAll("[^;]", "").length();
            due("does() of '" + texts[k] + "'", x.does(), want);
        }
        due("told(5), nothing done", x.told(5), 0);
        due("told(4)", x.told(4), 2);

        // All orders, with the least and with more blanks than needed.
        x = new SceneBoxes();
        does(x, "s0 0 8 8 1;s 4 4  08 08 99 ;c1 0;l0 98;m1 2 2 20 20;", 5);
        due("told(4)", x.told(4), 1);
        viewIs(x, 1, 2, 2, 6, 6);
        due("of(0, 4)", x.of(0, 4), 98);
        due("of(1, 4)", x.of(1, 4), 99);
        due("told(3), the text stays", x.told(3), 52);
        does(x, "c1 16;r0;d;", 3);
        due("told(6)", x.told(6), 0);
        due("told(5)", x.told(5), 1);
        due("back(), all orders at once", x.back(), 1);
        due("told(5)", x.told(5), 2);
        due("of(1, 5)", x.of(1, 5), 0);
        due("told(3)", x.told(3), 11);

        // A failing order: nothing is done, nothing is counted, and what went before helps.
        long before = 0;
        type(x, "r1;r0;r0;");
        before = x.digest();
        due("does(), the third fails", x.does(), -1002);
        due("digest()", x.digest(), before);
        type(x, "s9 9 9 9 9;c0 2;c2 1;d;");
        before = x.digest();
        due("does(), a circle", x.does(), -1002);
        due("digest()", x.digest(), before);
        does(x, "r0;", -1000);
        does(x, "s0 0 65 1 0;", -1000);
        does(x, "s0 0 64 64 0;m2 1 0 64 1;", -1001);
        does(x, "l0 99;l16 0;", -1001);
        does(x, "c0 17;", -1000);
        for (int k = 0; k < 3; k++) due("told(" + k + ")", x.told(k), 0);

        // Room: sixty orders, and a seventeenth shape.
        x = new SceneBoxes();
        does(x, "d;".repeat(60), 60);
        due("type, too many", x.type(32), FULL);
        x = row(16);
        does(x, "s0 0 1 1 0;", -1000);
        does(x, "r5;s0 0 1 1 7;", 2);
        due("of(5, 4)", x.of(5, 4), 7);
        due("told(2)", x.told(2), 0);
        due("told(4)", x.told(4), 5);

        // A failing text keeps what could be undone before it.
        x = row(2);
        does(x, "r0;r0;", -1001);
        due("back()", x.back(), 1);
        due("told(5)", x.told(5), 1);
    }

    private static void goingBack() {
        SceneBoxes x = new SceneBoxes();
        due("back()", x.back(), NO);
        long[] digests = new long[9];
        for (int k = 0; k < 8; k++) {
            due("shape", x.shape(7 * k, 7 * k, 3, 3, k), k);
            digests[k] = sceneSum(x);
        }
        due("told(4)", x.told(4), 5);
        x.type('d');
        x.of(99, 0);
        for (int k = 4; k >= 0; k--) {
            due("back()", x.back(), k);
            due("the scene " + k, sceneSum(x), digests[k + 2]);
        }
        due("back(), too often", x.back(), NO);
        due("told(0)", x.told(0), 1);
        due("told(1)", x.told(1), 2);
        due("told(3)", x.told(3), 1);
        due("told(5)", x.told(5), 3);
        due("shape after back", x.shape(0, 0, 1, 1, 0), 3);
        due("told(4)", x.told(4), 1);
        due("back()", x.back(), 0);
        due("the scene again", sceneSum(x), digests[2]);

        // Calls that fail, and queries, are not among those that can be undone.
        x = row(2);
        x.shape(0, 0, 0, 0, 0);
        x.clips(0, 0);
        x.removes(7);
        x.tree(0);
        x.clear();
        due("back()", x.back(), 1);
        due("told(5)", x.told(5), 1);

        // Undone, the scene goes on as if nothing had been: the two objects do the same then.
        x = row(9);
        SceneBoxes y = row(9);
        x.removes(1);
        x.moves(2, 40, 40, 3, 3);
        x.removes(8);
        for (int k = 0; k < 3; k++) x.back();
        SceneBoxes[] both = {x, y};
        for (SceneBoxes z : both) {
            z.moves(4, 50, 50, 3, 3);
            z.removes(0);
            z.removes(6);
            z.shape(20, 20, 5, 5, 5);
        }
        due("the same scene", sceneSum(x), sceneSum(y));
        for (int k = 3; k >= 0; k--) {
            x.back();
            y.back();
            due("the same scene, " + k + " calls before", sceneSum(x), sceneSum(y));
        }
        x.drawn();
        x.back();
        x.lifts(3, 9);
        x.lifts(3, 8);
        x.back();
        due("of(3, 4), one step back", x.of(3, 4), 9);
        x.back();
        due("of(3, 4), two steps back", x.of(3, 4), 0);
        due("the same scene again", sceneSum(x), sceneSum(y));

        // Each kind, undone.
        String[] orders = {"s60 60 2 2 5;", "m0 40 40 2 2;", "l0 5;", "c0 1;", "r3;", "d;", "r0;r1;r2;r3;r4;r5;"};
        for (String order : orders) {
            x = row(6);
            long before = sceneSum(x);
            type(x, order);
            x.does();
            due("has changed by " + order, before == sceneSum(x) ? 1 : 0, 0);
            due("back() of " + order, x.back(), 4);
            due("the scene before " + order, sceneSum(x), before);
        }
    }

    private static void told() {
        SceneBoxes x = row(16);
        x.shape(0, 0, 1, 1, 0);
        x.shape(0, 0, 1, 1, 0);
        x.shape(-1, 0, 1, 1, 0);
        x.clips(1, 1);
        x.clips(1, 1);
        x.clips(1, 1);
        type(x, "x;y;");
        int[] want = {1, 3, 2, 4, 5, 16, 4};
        for (int k = 0; k < 7; k++) due("told(" + k + ")", x.told(k), want[k]);
        int[] bad = {-1, 7, HIGH, LOW};
        for (int k : bad) due("told(" + k + ")", x.told(k), BAD);
        due("told(0)", x.told(0), 1 + bad.length);
        x.does();
        x.node(99, 0);
        x.walk(99);
        due("told(0), those are none", x.told(0), 1 + bad.length);
    }

    private static void digest() {
        SceneBoxes x = new SceneBoxes();
        due("digest()", x.digest(), folded(x));
        x = row(16);
        x.drawn();
        x.told(9);
        x.shape(0, 0, 1, 1, 1);
        x.clips(15, 15);
        x.type(65);
        due("digest()", x.digest(), folded(x));
        due("digest() again", x.digest(), x.digest());
    }

    public static void main(String[] args) {
        about("promise 1"); newObject();
        about("promise 2"); shape();
        about("promise 3"); moves();
        about("promise 4"); lifts();
        about("promise 5"); clips();
        about("promise 6"); removes();
        about("promise 7"); drawn();
        about("promise 8"); of();
        about("promise 9"); view();
        about("promise 10"); hit();
        about("promise 11"); within();
        about("promise 12"); nearest();
        about("promise 13"); damage();
        about("promise 14"); tree();
        about("promise 15"); node();
        about("promise 16"); walking();
        about("promise 17"); typing();
        about("promise 18"); clearing();
        about("promise 19"); doing();
        about("promise 20"); goingBack();
        about("promise 21"); told();
        about("promise 22"); digest();
        end("the promises hold");
    }
}
