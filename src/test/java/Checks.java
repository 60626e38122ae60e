import java.math.BigInteger;
import java.util.function.IntSupplier;

/** What the tests of this folder share: how an answer is looked at, and scenes to begin with. */
abstract class Checks {
    static final int NONE = -1, BAD = -2, NO = -3, FULL = -4, NO_NODE = -5;
    static final int LOW = Integer.MIN_VALUE, HIGH = Integer.MAX_VALUE;

    private static int wrong = 0;
    private static String subject = "";

    /** Names what the next answers are about, for the lines that tell of wrong ones. */
    static void about(String words) {
        subject = words;
    }

    static void due(String call, long got, long want) {
        if (got != want) {
            tell(call + " answered " + got + ", due is " + want);
        }
    }

    static void dueText(String call, String got, String want) {
        if (!got.equals(want)) {
            tell(call + " is " + got + ", due is " + want);
        }
    }

    static void tell(String what) {
        wrong++;
        System.out.println(subject + ": " + what);
    }

    /** The last line of a test; ends the machine with exit code 1 if an answer was wrong. */
    static void end(String good) {
        System.out.println(wrong == 0 ? good : wrong + " answers are not as due");
        if (wrong != 0) {
            System.exit(1);
        }
    }

    /** The call answers an error code, is counted, and changes nothing else that the checksum sees. */
    static void refused(SceneBoxes x, int code, String call, IntSupplier made) {
        long want = x.digest() + weight(x, BAD - code);
        due(call, made.getAsInt(), code);
        due("digest() after " + call, x.digest(), want);
    }

    /** The call answers, and changes nothing, not even a count. */
    static void answered(SceneBoxes x, int want, String call, IntSupplier made) {
        long before = x.digest();
        due(call, made.getAsInt(), want);
        due("digest() after " + call, x.digest(), before);
    }

    /** How much the checksum grows when told(what) grows by one. */
    private static long weight(SceneBoxes x, int what) {
        long weight = 1;
        int behind = 10 - what + 6 * x.tree(0) + 11 * x.told(5) + 4 * x.told(6);
        for (int k = 0; k < behind; k++) {
            weight *= 31;
        }
        return weight;
    }

    /** A checksum of the scene alone, without the error counts, the text and what can be undone. */
    static long sceneSum(SceneBoxes x) {
        long sum = x.digest();
        for (int what = 0; what < 5; what++) {
            sum -= x.told(what) * weight(x, what);
        }
        return sum;
    }

    /** The checksum from the answers of the other calls, without overflow until the end. */
    static long folded(SceneBoxes x) {
        BigInteger sum = BigInteger.valueOf(1757);
        for (int k = 0; k < 7; k++) {
            sum = then(sum, x.told(k));
        }
        for (int k = 0; k < 4; k++) {
            sum = then(sum, x.tree(k));
        }
        int nodes = x.tree(0);
        for (int k = 0; k < 6 * nodes; k++) {
            sum = then(sum, x.node(k / 6, k % 6));
        }
        int shapes = x.told(5);
        for (int i = 0; i < shapes; i++) {
            int s = x.walk(i);
            sum = then(sum, s);
            for (int k = 0; k < 6; k++) {
                sum = then(sum, x.of(s, k));
            }
            for (int k = 0; k < 4; k++) {
                sum = then(sum, x.view(s, k));
            }
        }
        int boxes = x.told(6);
        for (int k = 0; k < 4 * boxes; k++) {
            sum = then(sum, x.damage(k / 4, k % 4));
        }
        return sum.longValue();
    }

    static BigInteger then(BigInteger sum, int value) {
        return sum.multiply(BigInteger.valueOf(31)).add(BigInteger.valueOf(value));
    }

    static void type(SceneBoxes x, String text) {
        x.clear();
        for (int k = 0; k < text.length(); k++) {
            due("type in '" + text + "'", x.type(text.charAt(k)), k + 1);
        }
    }

    static void does(SceneBoxes x, String text, int want) {
        type(x, text);
        due("does() of '" + text + "'", x.does(), want);
    }

    static void walkIs(SceneBoxes x, int... shapes) {
        for (int k = 0; k < shapes.length; k++) {
            due("walk(" + k + ")", x.walk(k), shapes[k]);
        }
        due("walk(" + shapes.length + ")", x.walk(shapes.length), NONE);
    }

    static void viewIs(SceneBoxes x, int s, int left, int top, int w, int h) {
        int[] want = {left, top, w, h};
        for (int k = 0; k < 4; k++) {
            due("view(" + s + ", " + k + ")", x.view(s, k), want[k]);
        }
    }

    static void viewIsEmpty(SceneBoxes x, int s) {
        viewIs(x, s, NONE, NONE, NONE, NONE);
    }

    static void nodeIs(SceneBoxes x, int i, int... values) {
        for (int k = 0; k < values.length; k++) {
            due("node(" + i + ", " + k + ")", x.node(i, k), values[k]);
        }
    }

    /** The whole sequence of damaged boxes, four numbers each. */
    static void damageIs(SceneBoxes x, int... sides) {
        due("told(6)", x.told(6), sides.length / 4);
        for (int k = 0; k < sides.length; k++) {
            due("damage(" + k / 4 + ", " + k % 4 + ")", x.damage(k / 4, k % 4), sides[k]);
        }
        due("damage behind the end", x.damage(sides.length / 4, 0), NONE);
    }

    /** The whole tree, a pair of brackets for each node, such as ((0 2 4)(1 3)). */
    static void treeIs(SceneBoxes x, String want) {
        int deepest = x.tree(2);
        int open = 0;
        int next = 0;
        StringBuilder tree = new StringBuilder();
        for (int i = 0; i < x.tree(0); i++) {
            int depth = x.node(i, 0);
            tree.append(")".repeat(Math.max(0, open - depth))).append('(');
            open = depth + 1;
            for (int k = 0; depth == deepest && k < x.node(i, 1); k++) {
                tree.append(k == 0 ? "" : " ").append(x.walk(next));
                next++;
            }
        }
        dueText("the tree", tree.append(")".repeat(open)).toString(), want);
        due("walk behind the tree", x.walk(next), NONE);
    }

    /** A new object with these boxes as shapes 0, 1, .., all of level 0. */
    static SceneBoxes sceneWith(int[]... boxes) {
        SceneBoxes x = new SceneBoxes();
        for (int s = 0; s < boxes.length; s++) {
            int[] b = boxes[s];
            due("shape " + s, x.shape(b[0], b[1], b[2], b[3], 0), s);
        }
        return x;
    }

    static int[] box(int x, int y, int w, int h) {
        return new int[] {x, y, w, h};
    }

    /** Shapes of two by two in a row, with gaps of two between them. */
    static SceneBoxes row(int shapes) {
        int[][] boxes = new int[shapes][];
        for (int s = 0; s < shapes; s++) {
            boxes[s] = box(4 * s, 0, 2, 2);
        }
        return sceneWith(boxes);
    }

    /** Shapes that all have the same box, so that only the order decides. */
    static SceneBoxes pile(int shapes) {
        int[][] boxes = new int[shapes][];
        for (int s = 0; s < shapes; s++) {
            boxes[s] = box(7, 7, 3, 3);
        }
        return sceneWith(boxes);
    }

    /** Each shape has the next one as its clip; the last one has none. */
    static void chain(SceneBoxes x, int shapes) {
        for (int s = 0; s + 1 < shapes; s++) {
            due("clips(" + s + ", " + (s + 1) + ")", x.clips(s, s + 1), 16);
        }
    }
}
