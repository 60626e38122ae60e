/** The four examples of the document, each on a new object. */
public final class ExamplesTest extends Checks {
    private static void first() {
        about("example 1");
        SceneBoxes x = new SceneBoxes();
        due("shape(0, 0, 10, 10, 5)", x.shape(0, 0, 10, 10, 5), 0);
        due("shape(5, 5, 10, 10, 3)", x.shape(5, 5, 10, 10, 3), 1);
        due("clips(1, 0)", x.clips(1, 0), 16);
        due("view(1, 2)", x.view(1, 2), 5);
        due("hit(6, 6, 0)", x.hit(6, 6, 0), 0);
        due("hit(6, 6, 1)", x.hit(6, 6, 1), 1);
        due("hit(12, 12, 0)", x.hit(12, 12, 0), -1);
        due("removes(0)", x.removes(0), -3);
        due("within(12, 12, 1, 1)", x.within(12, 12, 1, 1), 1);
        due("nearest(63, 63)", x.nearest(63, 63), 1);
        due("damage(0, 2)", x.damage(0, 2), 10);
        due("told(6)", x.told(6), 2);
        due("lifts(1, 9)", x.lifts(1, 9), 3);
        due("hit(6, 6, 0)", x.hit(6, 6, 0), 1);
        due("clips(0, 1)", x.clips(0, 1), -3);
        due("told(1)", x.told(1), 2);
    }

    private static void second() {
        about("example 2");
        SceneBoxes x = new SceneBoxes();
        due("shape(0, 0, 2, 2, 0)", x.shape(0, 0, 2, 2, 0), 0);
        due("shape(60, 60, 2, 2, 0)", x.shape(60, 60, 2, 2, 0), 1);
        due("shape(2, 0, 2, 2, 0)", x.shape(2, 0, 2, 2, 0), 2);
        due("shape(58, 60, 2, 2, 0)", x.shape(58, 60, 2, 2, 0), 3);
        due("tree(0)", x.tree(0), 1);
        due("shape(4, 0, 2, 2, 0)", x.shape(4, 0, 2, 2, 0), 4);
        due("tree(0)", x.tree(0), 3);
        due("node(1, 1)", x.node(1, 1), 3);
        due("walk(3)", x.walk(3), 1);
        due("tree(3)", x.tree(3), 20);
        due("drawn()", x.drawn(), 2);
        due("moves(4, 56, 60, 2, 2)", x.moves(4, 56, 60, 2, 2), 3);
        due("walk(4)", x.walk(4), 4);
        due("removes(0)", x.removes(0), 4);
        due("tree(2)", x.tree(2), 0);
        due("back()", x.back(), 4);
    }

    private static void third() {
        about("example 3");
        SceneBoxes x = new SceneBoxes();
        int[] bytes = {115, 49, 32, 50, 32, 51, 32, 52, 32, 53, 59};
        for (int k = 0; k < bytes.length; k++) {
            due("type(" + bytes[k] + ")", x.type(bytes[k]), k + 1);
        }
        due("does()", x.does(), 1);
        due("of(0, 3)", x.of(0, 3), 4);
        due("type(100)", x.type(100), 12);
        due("does()", x.does(), -22);
        due("told(4)", x.told(4), 1);
    }

    private static void fourth() {
        about("example 4");
        SceneBoxes x = new SceneBoxes();
        int[] bytes = {108, 48, 32, 55, 59};
        for (int k = 0; k < bytes.length; k++) {
            due("type(" + bytes[k] + ")", x.type(bytes[k]), k + 1);
        }
        due("does()", x.does(), -1000);
        due("clear()", x.clear(), 5);
        due("does()", x.does(), -10);
        due("shape(60, 0, 5, 1, 0)", x.shape(60, 0, 5, 1, 0), -2);
        due("node(0, 4)", x.node(0, 4), 0);
        due("node(1, 0)", x.node(1, 0), -5);
        due("nearest(0, 0)", x.nearest(0, 0), -1);
        due("damage(-1, 0)", x.damage(-1, 0), -2);
        due("told(0)", x.told(0), 2);
        due("back()", x.back(), -3);
        due("told(1)", x.told(1), 1);
    }

    public static void main(String[] args) {
        first();
        second();
        third();
        fourth();
        end("the examples answer as due");
    }
}
