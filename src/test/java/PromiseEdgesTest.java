import java.math.BigInteger;
import java.util.function.IntSupplier;

/**
 * The boundary cases of the promises' own sections: a test for each sentence that names one, under the
 * number of the promise and the words of the sentence.
 */
public final class PromiseEdgesTest extends Checks {
    private static final int[][] OUTSIDE = {{-1, 0}, {64, 0}, {0, -1}, {0, 64}, {LOW, 0}, {HIGH, 0}, {0, LOW}, {0, HIGH}};

    /** All that can be seen of a new object. */
    private static void isNew(SceneBoxes x) {
        for (int what = 0; what < 7; what++) {
            due("told(" + what + ")", x.told(what), 0);
        }
        treeIs(x, "()");
        damageIs(x);
        due("within(0, 0, 64, 64)", x.within(0, 0, 64, 64), 0);
        due("does()", x.does(), -10);
        due("clear()", x.clear(), 0);
    }

    private static void newObject() {
        about("1: Creates an empty scene, with an empty text and all counts 0.");
        isNew(new SceneBoxes());
        // Whatever has been done with another object.
        SceneBoxes other = row(16);
        other.shape(0, 0, 1, 1, 0);
        other.clips(0, 0);
        other.told(7);
        other.type(32);
        isNew(new SceneBoxes());
    }

    // ---- 2 to 7: shapes

    private static void shapeWithoutClip() {
        about("2: Adds a shape without a clip.");
        SceneBoxes x = row(3);
        due("of(2, 5)", x.of(2, 5), 16);
        x.clips(2, 0);
        x.removes(2);
        due("shape with a number that had a clip", x.shape(8, 0, 2, 2, 0), 2);
        due("of(2, 5)", x.of(2, 5), 16);
        due("of(0, 6)", x.of(0, 6), 0);
        viewIs(x, 2, 8, 0, 2, 2);
    }

    private static void lowestFreeNumber() {
        about("2: Returns the number of the shape, the lowest one that is free");
        SceneBoxes x = row(16);
        x.removes(15);
        x.removes(9);
        x.removes(0);
        for (int s : new int[] {0, 9, 15}) {
            due("shape", x.shape(1, 1, 1, 1, 1), s);
        }
    }

    private static void shapeIsBad() {
        about("2: BAD if the box is not possible or z is out of range");
        SceneBoxes x = new SceneBoxes();
        for (int[] b : new int[][] {{0, 0, 65, 1, 0}, {0, 0, 1, 65, 0}, {63, 63, 2, 1, 0}, {63, 63, 1, 2, 0}, {0, 0, 0, 1, 0},
                {0, 0, 1, 0, 0}, {0, 0, 1, 1, -1}, {0, 0, 1, 1, 100}, {0, 0, 1, 1, LOW}, {0, 0, 1, 1, HIGH}}) {
            refused(x, BAD, "shape, wrong", () -> x.shape(b[0], b[1], b[2], b[3], b[4]));
        }
        due("told(5)", x.told(5), 0);
    }

    private static void shapeIsFull() {
        about("2: FULL if there are 16 shapes.");
        SceneBoxes x = row(15);
        due("shape, the 16th", x.shape(63, 63, 1, 1, 99), 15);
        refused(x, FULL, "shape, the 17th", () -> x.shape(63, 63, 1, 1, 99));
        x.removes(4);
        due("shape, the 16th again", x.shape(63, 63, 1, 1, 99), 4);
        refused(x, FULL, "shape, the 17th again", () -> x.shape(63, 63, 1, 1, 99));
        due("back()", x.back(), 4);
        due("shape after back()", x.shape(0, 0, 1, 1, 0), 4);
    }

    private static void movesCountsNodes() {
        about("3: Returns the number of nodes of the tree then");
        SceneBoxes x = pile(5);
        due("moves, three nodes stay", x.moves(0, 7, 7, 3, 3), 3);
        due("removes(2)", x.removes(2), 4);
        treeIs(x, "((4 0)(1 3))");
        due("moves, one node is left", x.moves(4, 0, 0, 1, 1), 1);
        SceneBoxes y = pile(11);
        due("tree(0)", y.tree(0), 8);
        // The noted shapes 5, 6 and 9 split one leaf, and 2 the next one.
        due("moves, a level is lost and comes back", y.moves(2, 7, 7, 3, 3), 8);
        due("tree(0)", y.tree(0), 8);
        due("moves of the only shape", row(1).moves(0, 5, 5, 5, 5), 1);
    }

    private static void movesIsBad() {
        about("3: BAD if there is no such shape or the box is not possible");
        SceneBoxes x = row(3);
        for (int s : new int[] {3, 15, 16, -1, LOW, HIGH}) {
            refused(x, BAD, "moves of " + s, () -> x.moves(s, 0, 0, 1, 1));
        }
        for (int[] b : new int[][] {{-1, 0, 1, 1}, {0, -1, 1, 1}, {64, 0, 1, 1}, {0, 64, 1, 1}, {0, 0, 0, 1}, {0, 0, 1, 0},
                {0, 0, 65, 1}, {0, 0, 1, 65}, {1, 0, 64, 1}, {0, 1, 1, 64}, {1, 0, HIGH, 1}, {0, 1, 1, HIGH}}) {
            refused(x, BAD, "moves, wrong", () -> x.moves(1, b[0], b[1], b[2], b[3]));
        }
        refused(x, BAD, "moves, all wrong", () -> x.moves(3, -1, -1, 0, 0));
    }

    private static void liftsAnswersTheOldLevel() {
        about("4: Returns the level that it had");
        SceneBoxes x = row(1);
        int[] levels = {99, 0, 0, 50, 50};
        int had = 0;
        for (int z : levels) {
            due("lifts(0, " + z + ")", x.lifts(0, z), had);
            due("of(0, 4)", x.of(0, 4), z);
            had = z;
        }
        due("back()", x.back(), 4);
        due("back()", x.back(), 3);
        due("of(0, 4)", x.of(0, 4), 0);
    }

    private static void liftsIsBad() {
        about("4: BAD if there is no such shape or z is out of range");
        SceneBoxes x = row(3);
        for (int s : new int[] {3, 15, 16, -1, LOW, HIGH}) {
            refused(x, BAD, "lifts of " + s, () -> x.lifts(s, 0));
        }
        for (int z : new int[] {-1, 100, LOW, HIGH}) {
            refused(x, BAD, "lifts to " + z, () -> x.lifts(2, z));
        }
    }

    private static void clipsAnswersTheOldClip() {
        about("5: Returns the clip that it had, 16 if it had none");
        SceneBoxes x = row(16);
        due("clips(3, 0)", x.clips(3, 0), 16);
        due("clips(3, 15)", x.clips(3, 15), 0);
        due("clips(3, 15) again", x.clips(3, 15), 15);
        due("clips(3, 16)", x.clips(3, 16), 15);
        due("clips(3, 16) again", x.clips(3, 16), 16);
        due("of(3, 5)", x.of(3, 5), 16);
        due("back()", x.back(), 4);
        due("back()", x.back(), 3);
        due("of(3, 5)", x.of(3, 5), 15);
    }

    private static void clipsIsBad() {
        about("5: BAD if there is no such shape s, or t is neither a shape nor 16");
        SceneBoxes x = row(3);
        for (int s : new int[] {3, 15, 16, 17, -1, LOW, HIGH}) {
            refused(x, BAD, "clips of " + s, () -> x.clips(s, 0));
            refused(x, BAD, "clips of " + s + " to none", () -> x.clips(s, 16));
            if (s != 16) {
                refused(x, BAD, "clips to " + s, () -> x.clips(0, s));
            }
        }
        due("clips(0, 16)", x.clips(0, 16), 16);
    }

    private static void clipsIsImpossible() {
        about("5: NO if s would be its own clip, directly or through a chain of clips.");
        SceneBoxes x = row(16);
        refused(x, NO, "clips(0, 0)", () -> x.clips(0, 0));
        refused(x, NO, "clips(15, 15)", () -> x.clips(15, 15));
        chain(x, 16);
        for (int s = 1; s < 16; s++) {
            int last = s;
            refused(x, NO, "clips(" + s + ", 0)", () -> x.clips(last, 0));
        }
        // The other way round it stays possible to reach further up the chain.
        due("clips(0, 15)", x.clips(0, 15), 1);
    }

    private static void removesFreesTheNumber() {
        about("6: Its number is free then.");
        SceneBoxes x = row(2);
        due("removes(0)", x.removes(0), 1);
        refused(x, BAD, "removes(0) again", () -> x.removes(0));
        refused(x, BAD, "of(0, 0)", () -> x.of(0, 0));
        due("shape", x.shape(9, 9, 9, 9, 9), 0);
        due("of(0, 0)", x.of(0, 0), 9);
    }

    private static void removesCountsShapes() {
        about("6: Returns the number of shapes that are left");
        SceneBoxes x = row(16);
        for (int s = 15; s >= 0; s--) {
            due("removes(" + s + ")", x.removes(s), s);
        }
        due("back()", x.back(), 4);
        due("told(5)", x.told(5), 1);
    }

    private static void removesIsBad() {
        about("6: BAD if there is no such shape");
        SceneBoxes x = row(3);
        for (int s : new int[] {3, 15, 16, -1, LOW, HIGH}) {
            refused(x, BAD, "removes(" + s + ")", () -> x.removes(s));
        }
        SceneBoxes y = new SceneBoxes();
        refused(y, BAD, "removes(0) of an empty scene", () -> y.removes(0));
    }

    private static void removesIsImpossible() {
        about("6: NO if it is the clip of a shape.");
        SceneBoxes x = row(3);
        x.clips(0, 1);
        x.clips(1, 2);
        refused(x, NO, "removes(1), a clip that has a clip", () -> x.removes(1));
        refused(x, NO, "removes(2), a clip", () -> x.removes(2));
        due("removes(0), which only has a clip", x.removes(0), 2);
        due("removes(1), a clip no more", x.removes(1), 1);
        due("removes(2), a clip no more", x.removes(2), 0);
    }

    private static void drawnEmptiesTheSequence() {
        about("7: Empties the sequence of damaged boxes.");
        SceneBoxes x = row(16);
        long before = sceneSum(x);
        x.drawn();
        damageIs(x);
        due("told(5)", x.told(5), 16);
        due("back()", x.back(), 4);
        due("told(6)", x.told(6), 4);
        due("the scene", sceneSum(x), before);
    }

    private static void drawnCountsBoxes() {
        about("7: Returns the number of boxes that it had.");
        for (int shapes = 0; shapes <= 6; shapes++) {
            SceneBoxes x = row(shapes);
            due("drawn() after " + shapes, x.drawn(), Math.min(shapes, 4));
            due("drawn() again", x.drawn(), 0);
        }
    }

    /** The call changes the scene, back() brings it back, and then the call answers the same again. */
    private static void undone(SceneBoxes x, String call, IntSupplier made) {
        long before = sceneSum(x);
        int answer = made.getAsInt();
        due("the scene is the same after " + call, sceneSum(x) == before ? 1 : 0, 0);
        due("back() after " + call, x.back(), 4);
        due("the scene after back()", sceneSum(x), before);
        due(call + " again", made.getAsInt(), answer);
    }

    private static void changesAreUndone() {
        about("2: Can be undone.");
        SceneBoxes four = row(4);
        four.drawn();
        undone(four, "shape, with a split", () -> four.shape(50, 50, 5, 5, 5));
        about("3: Can be undone.");
        SceneBoxes pile = pile(11);
        undone(pile, "moves, with nodes that are taken out", () -> pile.moves(2, 50, 50, 3, 3));
        about("4: Can be undone.");
        SceneBoxes x = row(5);
        undone(x, "lifts", () -> x.lifts(4, 99));
        about("5: Can be undone.");
        undone(x, "clips", () -> x.clips(4, 3));
        about("6: Can be undone.");
        undone(x, "removes", () -> x.removes(4));
        about("7: Can be undone.");
        undone(x, "drawn", x::drawn);
    }

    private static void changes() {
        shapeWithoutClip();
        lowestFreeNumber();
        shapeIsBad();
        shapeIsFull();
        movesCountsNodes();
        movesIsBad();
        liftsAnswersTheOldLevel();
        liftsIsBad();
        clipsAnswersTheOldClip();
        clipsIsBad();
        clipsIsImpossible();
        removesFreesTheNumber();
        removesCountsShapes();
        removesIsBad();
        removesIsImpossible();
        drawnEmptiesTheSequence();
        drawnCountsBoxes();
        changesAreUndone();
    }

    // ---- 8 to 13: queries

    private static void ofAnswersProperties() {
        about("8: 0 for x, 1 for y, 2 for the width, 3 for the height, 4 for the level, 5 for the clip (16 if it has none), "
            + "6 for the number of shapes whose clip it is");
        SceneBoxes x = new SceneBoxes();
        x.shape(63, 62, 1, 2, 99);
        x.shape(0, 1, 64, 63, 0);
        int[][] alone = {{63, 62, 1, 2, 99, 16, 0}, {0, 1, 64, 63, 0, 16, 0}};
        int[][] clipped = {{63, 62, 1, 2, 99, 1, 0}, {0, 1, 64, 63, 0, 16, 1}};
        for (int k = 0; k < 7; k++) {
            due("of(0, " + k + ")", x.of(0, k), alone[0][k]);
            due("of(1, " + k + ")", x.of(1, k), alone[1][k]);
        }
        x.clips(0, 1);
        for (int k = 0; k < 7; k++) {
            due("of(0, " + k + "), clipped", x.of(0, k), clipped[0][k]);
            due("of(1, " + k + "), a clip", x.of(1, k), clipped[1][k]);
        }
        // Fifteen shapes with one clip; only those whose own clip it is are counted.
        SceneBoxes y = row(16);
        for (int s = 1; s < 16; s++) {
            y.clips(s, 0);
        }
        due("of(0, 6)", y.of(0, 6), 15);
        y.clips(15, 14);
        due("of(0, 6), one is clipped through another", y.of(0, 6), 14);
    }

    private static void ofIsBad() {
        about("8: BAD if there is no such shape or what is not 0 to 6.");
        SceneBoxes x = row(2);
        for (int what : new int[] {-1, 7, LOW, HIGH}) {
            refused(x, BAD, "of(0, " + what + ")", () -> x.of(0, what));
        }
        for (int s : new int[] {2, 15, 16, -1, LOW, HIGH}) {
            refused(x, BAD, "of(" + s + ", 6)", () -> x.of(s, 6));
        }
    }

    private static void viewIsNone() {
        about("9: NONE if the view is empty");
        SceneBoxes x = sceneWith(box(10, 10, 5, 5), box(14, 14, 5, 5), box(15, 10, 5, 5), box(10, 15, 5, 5));
        viewIs(x, 2, 15, 10, 5, 5);
        for (int s = 1; s < 4; s++) {
            x.clips(s, 0);
        }
        viewIs(x, 1, 14, 14, 1, 1);
        for (int k = 0; k < 4; k++) {
            int what = k;
            answered(x, NONE, "view(2, " + k + ")", () -> x.view(2, what));
            answered(x, NONE, "view(3, " + k + ")", () -> x.view(3, what));
        }
    }

    private static void viewIsBad() {
        about("9: BAD if there is no such shape or what is not 0 to 3.");
        SceneBoxes x = row(2);
        for (int what : new int[] {-1, 4, LOW, HIGH}) {
            refused(x, BAD, "view(0, " + what + ")", () -> x.view(0, what));
        }
        for (int s : new int[] {2, 15, 16, -1, LOW, HIGH}) {
            refused(x, BAD, "view(" + s + ", 0)", () -> x.view(s, 0));
        }
    }

    private static void hitInViews() {
        about("10: Returns a shape whose view contains a point, from the uppermost one downward.");
        SceneBoxes x = sceneWith(box(0, 0, 64, 64), box(10, 10, 4, 4), box(0, 0, 64, 64), box(12, 12, 9, 9));
        x.lifts(0, 1);
        x.clips(2, 1);
        x.clips(3, 1);
        int[] inside = {0, 3, 2, 1, NONE};
        int[] beside = {0, NONE, NONE, NONE, NONE};
        for (int i = 0; i < 5; i++) {
            due("hit(13, 13, " + i + ")", x.hit(13, 13, i), inside[i]);
            due("hit(14, 13, " + i + ")", x.hit(14, 13, i), beside[i]);
        }
        due("hit(0, 0, 0)", x.hit(0, 0, 0), 0);
        due("hit(63, 63, 0)", x.hit(63, 63, 0), 0);
        due("hit(10, 10, 1)", x.hit(10, 10, 1), 2);
        due("hit(9, 10, 1)", x.hit(9, 10, 1), NONE);
    }

    private static void hitIsNone() {
        about("10: NONE if there are not so many");
        SceneBoxes x = pile(16);
        due("hit(9, 9, 15)", x.hit(9, 9, 15), 0);
        answered(x, NONE, "hit(9, 9, 16)", () -> x.hit(9, 9, 16));
        answered(x, NONE, "hit(9, 9, HIGH)", () -> x.hit(9, 9, HIGH));
        answered(x, NONE, "hit(10, 9, 0)", () -> x.hit(10, 9, 0));
        SceneBoxes y = new SceneBoxes();
        answered(y, NONE, "hit of an empty scene", () -> y.hit(0, 0, 0));
    }

    private static void hitIsBad() {
        about("10: BAD if x or y is out of range or i is negative.");
        SceneBoxes x = sceneWith(box(0, 0, 64, 64));
        for (int[] p : OUTSIDE) {
            refused(x, BAD, "hit(" + p[0] + ", " + p[1] + ", 0)", () -> x.hit(p[0], p[1], 0));
        }
        refused(x, BAD, "hit(0, 0, -1)", () -> x.hit(0, 0, -1));
        refused(x, BAD, "hit(0, 0, LOW)", () -> x.hit(0, 0, LOW));
    }

    private static void withinCounts() {
        about("11: Counts the shapes whose boxes (whatever their clips are) have at least one point in common with a box.");
        SceneBoxes x = sceneWith(box(20, 20, 5, 5));
        int[][] beside = {{15, 15, 5, 5}, {20, 15, 5, 5}, {25, 15, 5, 5}, {15, 20, 5, 5}, {25, 20, 5, 5}, {15, 25, 5, 5},
            {20, 25, 5, 5}, {25, 25, 5, 5}, {0, 0, 20, 64}, {0, 25, 64, 39}};
        for (int[] b : beside) {
            due("within, beside it", x.within(b[0], b[1], b[2], b[3]), 0);
        }
        int[][] meeting = {{16, 16, 5, 5}, {24, 16, 5, 5}, {16, 24, 5, 5}, {24, 24, 5, 5}, {20, 20, 5, 5}, {22, 22, 1, 1},
            {0, 22, 64, 1}, {22, 0, 1, 64}, {0, 0, 64, 64}};
        for (int[] b : meeting) {
            due("within, one point or more", x.within(b[0], b[1], b[2], b[3]), 1);
        }
        // The views of all but one are empty.
        SceneBoxes y = row(16);
        for (int s = 1; s < 16; s++) {
            y.clips(s, 0);
        }
        due("within, all of them", y.within(0, 0, 64, 64), 16);
        due("within, those that are clipped away", y.within(4, 0, 60, 2), 15);
        due("within, an empty scene", new SceneBoxes().within(0, 0, 64, 64), 0);
    }

    private static void withinIsBad() {
        about("11: BAD if the box is not possible.");
        SceneBoxes x = row(2);
        for (int[] b : new int[][] {{-1, 0, 2, 2}, {0, -1, 2, 2}, {64, 0, 1, 1}, {0, 64, 1, 1}, {0, 0, 0, 1}, {0, 0, 1, 0},
                {0, 0, 65, 1}, {0, 0, 1, 65}, {63, 0, 2, 1}, {0, 63, 1, 2}, {63, 0, HIGH, 1}, {0, 63, 1, HIGH}}) {
            refused(x, BAD, "within, wrong", () -> x.within(b[0], b[1], b[2], b[3]));
        }
    }

    /** The point is as far from shape 0 as from shape 1, so that the one that is lifted decides. */
    private static void equallyFar(SceneBoxes x, int px, int py) {
        due("nearest, the greater number", x.nearest(px, py), 1);
        x.lifts(0, 1);
        due("nearest, the greater level", x.nearest(px, py), 0);
        x.lifts(0, 0);
    }

    private static void nearestByDistance() {
        about("12: The distance is dx * dx + dy * dy, where dx is the distance of x from the nearest of the numbers "
            + "x to x + w - 1 of the box, and dy likewise.");
        // From 17 it is 3 to 14 and 3 to 20, in both directions.
        equallyFar(sceneWith(box(10, 10, 5, 5), box(20, 10, 5, 5)), 17, 12);
        equallyFar(sceneWith(box(10, 10, 5, 5), box(10, 20, 5, 5)), 12, 17);
        // The first and the last number of a box are at a distance of 0.
        SceneBoxes x = sceneWith(box(10, 10, 5, 5), box(15, 10, 5, 5), box(10, 15, 5, 5));
        due("nearest(14, 14)", x.nearest(14, 14), 0);
        due("nearest(15, 14)", x.nearest(15, 14), 1);
        due("nearest(14, 15)", x.nearest(14, 15), 2);
        // 5 * 5 + 0 * 0 is 3 * 3 + 4 * 4.
        equallyFar(sceneWith(box(0, 20, 16, 5), box(23, 27, 5, 5)), 20, 23);
        equallyFar(sceneWith(box(20, 0, 5, 16), box(27, 23, 5, 5)), 23, 20);
    }

    private static void nearestOfSeveral() {
        about("12: Returns the shape, the uppermost one if there are several");
        SceneBoxes far = row(3);
        far.lifts(0, 9);
        due("nearest(63, 0), though another one is above", far.nearest(63, 0), 2);
        SceneBoxes x = pile(16);
        due("nearest(63, 63), of sixteen", x.nearest(63, 63), 15);
        x.lifts(4, 1);
        due("nearest(63, 63), the greater level", x.nearest(63, 63), 4);
        x.clips(4, 5);
        x.moves(5, 40, 40, 2, 2);
        viewIsEmpty(x, 4);
        due("nearest(8, 8), whatever its clip is", x.nearest(8, 8), 4);
    }

    private static void nearestIsNone() {
        about("12: NONE if there are no shapes");
        SceneBoxes x = row(1);
        due("nearest(63, 63)", x.nearest(63, 63), 0);
        x.removes(0);
        answered(x, NONE, "nearest(63, 63)", () -> x.nearest(63, 63));
        answered(x, NONE, "nearest(0, 0)", () -> x.nearest(0, 0));
    }

    private static void nearestIsBad() {
        about("12: BAD if x or y is out of range.");
        SceneBoxes x = row(1);
        for (int[] p : OUTSIDE) {
            refused(x, BAD, "nearest(" + p[0] + ", " + p[1] + ")", () -> x.nearest(p[0], p[1]));
        }
        due("nearest(63, 0)", x.nearest(63, 0), 0);
        due("nearest(0, 63)", x.nearest(0, 63), 0);
    }

    private static void damageIsNone() {
        about("13: NONE if there are not so many boxes");
        for (int boxes = 0; boxes <= 4; boxes++) {
            SceneBoxes x = row(boxes);
            int end = boxes;
            for (int i = 0; i < boxes; i++) {
                due("damage(" + i + ", 0)", x.damage(i, 0), 4 * i);
                due("damage(" + i + ", 2)", x.damage(i, 2), 2);
            }
            answered(x, NONE, "damage(" + boxes + ", 0)", () -> x.damage(end, 0));
            answered(x, NONE, "damage(HIGH, 3)", () -> x.damage(HIGH, 3));
        }
        // What was in the sequence before does not show.
        SceneBoxes y = row(4);
        y.drawn();
        answered(y, NONE, "damage(0, 0) after drawn()", () -> y.damage(0, 0));
    }

    private static void damageIsBad() {
        about("13: BAD if i is negative or what is not 0 to 3.");
        SceneBoxes x = row(2);
        for (int what : new int[] {-1, 4, LOW, HIGH}) {
            refused(x, BAD, "damage(0, " + what + ")", () -> x.damage(0, what));
            refused(x, BAD, "damage(9, " + what + ")", () -> x.damage(9, what));
        }
        refused(x, BAD, "damage(-1, 0)", () -> x.damage(-1, 0));
        refused(x, BAD, "damage(LOW, 3)", () -> x.damage(LOW, 3));
    }

    private static void queries() {
        ofAnswersProperties();
        ofIsBad();
        viewIsNone();
        viewIsBad();
        hitInViews();
        hitIsNone();
        hitIsBad();
        withinCounts();
        withinIsBad();
        nearestByDistance();
        nearestOfSeveral();
        nearestIsNone();
        nearestIsBad();
        damageIsNone();
        damageIsBad();
    }

    // ---- 14 to 16: the tree

    private static void treeProperties(SceneBoxes x, int nodes, int leaves, int depth, int area) {
        int[] want = {nodes, leaves, depth, area};
        for (int what = 0; what < 4; what++) {
            due("tree(" + what + ")", x.tree(what), want[what]);
        }
    }

    private static void treeOfFewShapes() {
        about("14: 2 for the depth of the leaves (0 if the root is a leaf), 3 for the sum of the areas of the boxes of all leaves "
            + "(0 for an empty leaf)");
        treeProperties(row(0), 1, 1, 0, 0);
        treeProperties(row(1), 1, 1, 0, 4);
        treeProperties(row(4), 1, 1, 0, 28);
        treeProperties(row(5), 3, 2, 1, 32);
        treeProperties(row(13), 5, 4, 1, 3 * 20 + 28);
        treeProperties(row(14), 8, 5, 2, 4 * 20 + 12);
        SceneBoxes x = row(1);
        x.removes(0);
        treeProperties(x, 1, 1, 0, 0);
    }

    private static void treeIsBad() {
        about("14: BAD if what is not 0 to 3.");
        SceneBoxes x = row(5);
        for (int what : new int[] {-1, 4, LOW, HIGH}) {
            refused(x, BAD, "tree(" + what + ")", () -> x.tree(what));
        }
    }

    private static void nodeWithoutEntries() {
        about("15: 2 for x, 3 for y, 4 for the width, 5 for the height of its box (0 if it has no entries)");
        SceneBoxes x = new SceneBoxes();
        nodeIs(x, 0, 0, 0, 0, 0, 0, 0);
        x.shape(63, 62, 1, 2, 0);
        nodeIs(x, 0, 0, 1, 63, 62, 1, 2);
        x.removes(0);
        nodeIs(x, 0, 0, 0, 0, 0, 0, 0);
    }

    private static void noSuchNode() {
        about("15: -5, also only if no error code applies, if there are not so many nodes");
        for (int shapes : new int[] {0, 4, 5, 14}) {
            SceneBoxes x = row(shapes);
            int end = x.tree(0);
            due("the last node", x.node(end - 1, 0), x.tree(2));
            answered(x, NO_NODE, "node(" + end + ", 0)", () -> x.node(end, 0));
            answered(x, NO_NODE, "node(HIGH, 5)", () -> x.node(HIGH, 5));
            refused(x, BAD, "node(" + end + ", 6)", () -> x.node(end, 6));
            refused(x, BAD, "node(HIGH, -1)", () -> x.node(HIGH, -1));
        }
    }

    private static void nodeIsBad() {
        about("15: BAD if i is negative or what is not 0 to 5.");
        SceneBoxes x = row(5);
        for (int what : new int[] {-1, 6, LOW, HIGH}) {
            refused(x, BAD, "node(0, " + what + ")", () -> x.node(0, what));
        }
        refused(x, BAD, "node(-1, 0)", () -> x.node(-1, 0));
        refused(x, BAD, "node(LOW, 5)", () -> x.node(LOW, 5));
    }

    private static void walkIsNone() {
        about("16: NONE if there are not so many shapes");
        for (int shapes = 0; shapes <= 16; shapes++) {
            SceneBoxes x = row(shapes);
            int end = shapes;
            if (shapes > 0) {
                due("walk, the last one, is a shape", x.walk(shapes - 1) >= 0 ? 1 : 0, 1);
            }
            answered(x, NONE, "walk(" + shapes + ")", () -> x.walk(end));
            answered(x, NONE, "walk(HIGH)", () -> x.walk(HIGH));
        }
    }

    private static void walkIsBad() {
        about("16: BAD if i is negative.");
        SceneBoxes x = row(5);
        refused(x, BAD, "walk(-1)", () -> x.walk(-1));
        refused(x, BAD, "walk(LOW)", () -> x.walk(LOW));
    }

    private static void trees() {
        treeOfFewShapes();
        treeIsBad();
        nodeWithoutEntries();
        noSuchNode();
        nodeIsBad();
        walkIsNone();
        walkIsBad();
    }

    // ---- 17 to 22: texts and states

    private static void typeCountsBytes() {
        about("17: Returns the length of the text");
        SceneBoxes x = new SceneBoxes();
        for (int c = 0; c < 120; c++) {
            due("type(" + c + ")", x.type(c), c + 1);
        }
        x.clear();
        due("type(127) after clear()", x.type(127), 1);
        due("told(4)", x.told(4), 0);
    }

    private static void typeIsBad() {
        about("17: BAD if c is out of range");
        SceneBoxes x = new SceneBoxes();
        for (int c : new int[] {-1, 128, 255, 256 + 'd', LOW, HIGH}) {
            refused(x, BAD, "type(" + c + ")", () -> x.type(c));
        }
        due("type(0)", x.type(0), 1);
        due("type(127)", x.type(127), 2);
    }

    private static void typeIsFull() {
        about("17: FULL if the text has 120 bytes.");
        SceneBoxes x = new SceneBoxes();
        type(x, " ".repeat(119));
        due("type, the 120th", x.type('d'), 120);
        refused(x, FULL, "type, the 121st", () -> x.type(';'));
        refused(x, FULL, "type, the 121st again", () -> x.type(';'));
        due("clear()", x.clear(), 120);
        due("type after clear()", x.type(';'), 1);
    }

    private static void clearCountsBytes() {
        about("18: Empties the text. Returns the length that it had.");
        SceneBoxes x = new SceneBoxes();
        due("clear() of an empty text", x.clear(), 0);
        type(x, "d;".repeat(60));
        due("clear() of a full text", x.clear(), 120);
        due("told(3)", x.told(3), 0);
        due("clear() again", x.clear(), 0);
        // What was there does not come back behind a shorter text.
        due("type", x.type('d'), 1);
        due("does()", x.does(), -11);
        due("told(4)", x.told(4), 0);
    }

    private static void doesOneAfterTheOther() {
        about("19: Carries out the orders of the text, one after the other.");
        SceneBoxes x = new SceneBoxes();
        does(x, "s0 0 9 9 1;s1 1 9 9 2;c1 0;r1;s2 2 9 9 3;m1 5 5 9 9;", 6);
        due("told(5)", x.told(5), 2);
        due("of(1, 0)", x.of(1, 0), 5);
        due("of(1, 5)", x.of(1, 5), 16);
        // In a full scene there is room after a removal.
        SceneBoxes y = row(16);
        does(y, "r7;s0 9 1 1 50;", 2);
        due("of(7, 4)", y.of(7, 4), 50);
    }

    private static void textStays() {
        about("19: The text stays.");
        SceneBoxes x = new SceneBoxes();
        does(x, "s0 0 1 1 0;", 1);
        due("told(3)", x.told(3), 11);
        due("does() again", x.does(), 1);
        due("told(5)", x.told(5), 2);
        x.type('d');
        due("does() with a fault", x.does(), -22);
        x.type(';');
        due("does() without it", x.does(), 2);
        does(x, "r9;", -1000);
        due("told(3)", x.told(3), 3);
    }

    private static void faultDoesNothing() {
        about("19: If the text has a fault, .. nothing is done.");
        SceneBoxes x = row(2);
        String[] texts = {"l0 5;x", "r0;r1;d", "d;;", "d;l0 100;"};
        int[] want = {-15, -17, -12, -17};
        for (int k = 0; k < texts.length; k++) {
            type(x, texts[k]);
            answered(x, want[k], "does() of '" + texts[k] + "'", x::does);
        }
        due("back()", x.back(), 1);
        due("told(5)", x.told(5), 1);
    }

    private static void failingOrderDoesNothing() {
        about("19: or if one of the calls would return an error code when its turn comes, nothing is done");
        SceneBoxes x = pile(11);
        SceneBoxes twin = pile(11);
        String[] texts = {"r2;r2;", "s0 0 1 1 1;m11 1 1 1 1;c11 11;", "d;l3 9;c3 4;c4 3;", "c3 4;r4;", "m0 9 9 9 9;l0 5;s0 0 65 1 0;",
            "r0;r1;r2;r3;r4;r5;r6;r7;r8;r9;r10;r0;"};
        int[] want = {-1001, -1002, -1003, -1001, -1002, -1011};
        for (int k = 0; k < texts.length; k++) {
            type(x, texts[k]);
            answered(x, want[k], "does() of '" + texts[k] + "'", x::does);
        }
        // What could be undone before still can, and the scene goes on as if nothing had been.
        for (SceneBoxes each : new SceneBoxes[] {x, twin}) {
            each.back();
            each.moves(2, 40, 40, 9, 9);
            each.shape(1, 1, 1, 1, 1);
            each.removes(6);
        }
        due("the scene", sceneSum(x), sceneSum(twin));
        due("told(4)", x.told(4), 5);
    }

    private static void doesIsUndoneAtOnce() {
        about("19: All orders together can be undone as one call.");
        SceneBoxes x = row(3);
        long before = sceneSum(x);
        does(x, "r0;r1;r2;s9 9 9 9 9;d;l0 8;", 6);
        due("told(4)", x.told(4), 4);
        due("back()", x.back(), 3);
        due("the scene", sceneSum(x), before);
        // It is one of the five.
        for (int k = 0; k < 5; k++) {
            x.drawn();
        }
        does(x, "d;d;d;d;d;d;d;d;", 8);
        due("told(4)", x.told(4), 5);
    }

    private static void doesCountsOrders() {
        about("19: Returns the number of orders");
        SceneBoxes x = new SceneBoxes();
        does(x, "d;", 1);
        does(x, "d;".repeat(60), 60);
        does(x, "s 0 0 1 1 0 ;r0;".repeat(7), 14);
    }

    private static void doesTellsTheFault() {
        about("19: -10 minus the fault if the text has one");
        SceneBoxes x = new SceneBoxes();
        does(x, "", -10);
        does(x, "?", -10);
        does(x, "d", -11);
        does(x, "d;".repeat(59) + "d?", -129);
        does(x, " ".repeat(120), -130);
        // Also if an order before it would be refused.
        does(x, "r0;?", -13);
        does(x, "r0;r0;d", -17);
    }

    private static void doesTellsTheOrder() {
        about("19: -1000 minus the index (counted from 0) of the first order whose call would return an error code");
        SceneBoxes x = row(3);
        does(x, "r3;", -1000);
        does(x, "d;r3;r4;", -1001);
        does(x, "d;".repeat(58) + "r3;", -1058);
        does(x, "r16;", -1000);
        does(x, "d;l0 99;m0 64 0 1 1;", -1002);
        does(x, "m0 63 0 1 1;m0 63 0 2 1;", -1001);
        does(x, "c0 16;c0 17;", -1001);
        does(x, "c0 0;", -1000);
        does(x, "c0 1;r1;", -1001);
        SceneBoxes y = row(15);
        does(y, "s0 0 1 1 0;s0 0 1 1 0;", -1001);
        due("told(5)", y.told(5), 15);
    }

    private static void textAndCountsStay() {
        about("20: everything except the text and the counts of error codes is as it was before it");
        SceneBoxes x = row(2);
        long before = sceneSum(x);
        x.removes(0);
        x.type('d');
        x.type(128);
        x.clips(1, 1);
        x.of(0, 0);
        due("back()", x.back(), 2);
        due("the scene", sceneSum(x), before);
        due("told(0)", x.told(0), 2);
        due("told(1)", x.told(1), 1);
        due("told(3)", x.told(3), 1);
        due("type goes on", x.type(';'), 2);
        due("does()", x.does(), 1);
    }

    private static void eachKindIsUndone() {
        about("20: Undoes the latest call that can be undone");
        String[] orders = {"s60 60 2 2 5;", "m0 40 40 2 2;", "l0 5;", "c0 1;", "r3;", "d;", "r0;r1;r2;r3;r4;r5;"};
        for (String order : orders) {
            SceneBoxes x = row(6);
            SceneBoxes twin = row(6);
            long before = sceneSum(x);
            type(x, order);
            due("does() of " + order, x.does() > 0 ? 1 : 0, 1);
            due("the same scene after " + order, sceneSum(x) == before ? 1 : 0, 0);
            due("back() of " + order, x.back(), 4);
            due("the scene before " + order, sceneSum(x), before);
            // The scene goes on as if nothing had been.
            for (SceneBoxes each : new SceneBoxes[] {x, twin}) {
                each.shape(30, 30, 3, 3, 3);
                each.moves(2, 50, 50, 3, 3);
                each.removes(1);
            }
            due("the scene after other calls", sceneSum(x), sceneSum(twin));
        }
    }

    private static void backCountsCalls() {
        about("20: Returns the number of calls that can still be undone");
        SceneBoxes x = row(8);
        for (int left = 4; left >= 0; left--) {
            due("back()", x.back(), left);
            due("told(4)", x.told(4), left);
            due("told(5)", x.told(5), 3 + left);
        }
        for (int shapes = 4; shapes <= 6; shapes++) {
            due("shape", x.shape(0, 0, 1, 1, 0), shapes - 1);
            due("told(4)", x.told(4), shapes - 3);
        }
        for (int left = 2; left >= 0; left--) {
            due("back() again", x.back(), left);
            due("told(5)", x.told(5), 3 + left);
        }
    }

    private static void backIsImpossible() {
        about("20: NO if there is none.");
        SceneBoxes x = new SceneBoxes();
        refused(x, NO, "back() of a new object", x::back);
        x.drawn();
        due("back()", x.back(), 0);
        refused(x, NO, "back(), one too many", x::back);
        refused(x, NO, "back(), two too many", x::back);
        due("told(1)", x.told(1), 3);
    }

    private static void toldCounts() {
        about("21: 0 for the number of calls that have returned BAD, 1 for those that have returned NO, 2 for those that have "
            + "returned FULL, 3 for the length of the text, 4 for the number of calls that can be undone, 5 for the number of "
            + "shapes, 6 for the number of damaged boxes");
        SceneBoxes x = row(16);
        type(x, "?".repeat(120));
        x.shape(0, 0, 1, 1, 0);
        x.type('?');
        x.type(0);
        x.clips(0, 0);
        x.clips(1, 1);
        x.clips(0, 17);
        // These answer no error codes.
        x.does();
        x.node(99, 0);
        x.walk(16);
        x.hit(63, 63, 0);
        int[] want = {1, 2, 3, 120, 5, 16, 4};
        for (int what = 0; what < 7; what++) {
            due("told(" + what + ")", x.told(what), want[what]);
        }
    }

    private static void toldIsBad() {
        about("21: BAD if what is not 0 to 6.");
        SceneBoxes x = row(2);
        int[] wrong = {-1, 7, LOW, HIGH};
        for (int what : wrong) {
            refused(x, BAD, "told(" + what + ")", () -> x.told(what));
        }
        due("told(0)", x.told(0), wrong.length);
    }

    private static void digestStarts() {
        about("22: It starts with h = 1757");
        // Seventeen values: seven counts, the tree 1, 1, 0, 0, and one node of noughts.
        BigInteger sum = BigInteger.valueOf(1757);
        for (int value : new int[] {0, 0, 0, 0, 0, 0, 0, 1, 1, 0, 0, 0, 0, 0, 0, 0, 0}) {
            sum = then(sum, value);
        }
        due("digest() of a new object", new SceneBoxes().digest(), sum.longValue());
    }

    private static void digestOverflows() {
        about("22: for each of the following values, in this order, h becomes 31 * h + value (with overflow)");
        for (int shapes = 0; shapes <= 16; shapes++) {
            SceneBoxes x = new SceneBoxes();
            for (int s = 0; s < shapes; s++) {
                x.shape(13 * s % 50, 29 * s % 50, 1 + s % 5, 1 + s % 7, s * s % 100);
            }
            chain(x, shapes);
            x.clips(0, 0);
            x.told(7);
            x.type(32);
            x.type(128);
            long sum = x.digest();
            due("digest() again", x.digest(), sum);
            due("digest() of " + shapes + " shapes", sum, folded(x));
        }
    }

    private static void textsAndStates() {
        typeCountsBytes();
        typeIsBad();
        typeIsFull();
        clearCountsBytes();
        doesOneAfterTheOther();
        textStays();
        faultDoesNothing();
        failingOrderDoesNothing();
        doesIsUndoneAtOnce();
        doesCountsOrders();
        doesTellsTheFault();
        doesTellsTheOrder();
        textAndCountsStay();
        eachKindIsUndone();
        backCountsCalls();
        backIsImpossible();
        toldCounts();
        toldIsBad();
        digestStarts();
        digestOverflows();
    }

    public static void main(String[] args) {
        newObject();
        changes();
        queries();
        trees();
        textsAndStates();
        end("the boundary cases of the promises hold");
    }
}
