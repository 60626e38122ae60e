/** The four examples of the document, each on a new object. */
public final class ExamplesTest {
    private static int wrong = 0;

    private static void due(String call, long got, long want) {
        if (got != want) {
            wrong++;
            System.out.println(call + " answered " + got + ", due is " + want);
        }
    }

    private static void first() {
        SceneBoxes x = new SceneBoxes();
        due("1: shape(0, 0, 10, 10, 5)", x.shape(0, 0, 10, 10, 5), 0);
        due("1: shape(5, 5, 10, 10, 3)", x.shape(5, 5, 10, 10, 3), 1);
        due("1: clips(1, 0)", x.clips(1, 0), 16);
        due("1: view(1, 2)", x.view(1, 2), 5);
        due("1: hit(6, 6, 0)", x.hit(6, 6, 0), 0);
        due("1: hit(6, 6, 1)", x.hit(6, 6, 1), 1);
        due("1: hit(12, 12, 0)", x.hit(12, 12, 0), -1);
        due("1: removes(0)", x.removes(0), -3);
        due("1: within(12, 12, 1, 1)", x.within(12, 12, 1, 1), 1);
        due("1: nearest(63, 63)", x.nearest(63, 63), 1);
        due("1: damage(0, 2)", x.damage(0, 2), 10);
        due("1: told(6)", x.told(6), 2);
        due("1: lifts(1, 9)", x.lifts(1, 9), 3);
        due("1: hit(6, 6, 0)", x.hit(6, 6, 0), 1);
        due("1: clips(0, 1)", x.clips(0, 1), -3);
        due("1: told(1)", x.told(1), 2);
    }

    private static void second() {
        SceneBoxes x = new SceneBoxes();
        due("2: shape(0, 0, 2, 2, 0)", x.shape(0, 0, 2, 2, 0), 0);
        due("2: shape(60, 60, 2, 2, 0)", x.shape(60, 60, 2, 2, 0), 1);
        due("2: shape(2, 0, 2, 2, 0)", x.shape(2, 0, 2, 2, 0), 2);
        due("2: shape(58, 60, 2, 2, 0)", x.shape(58, 60, 2, 2, 0), 3);
        due("2: tree(0)", x.tree(0), 1);
        due("2: shape(4, 0, 2, 2, 0)", x.shape(4, 0, 2, 2, 0), 4);
        due("2: tree(0)", x.tree(0), 3);
        due("2: node(1, 1)", x.node(1, 1), 3);
        due("2: walk(3)", x.walk(3), 1);
        due("2: tree(3)", x.tree(3), 20);
        due("2: drawn()", x.drawn(), 2);
        due("2: moves(4, 56, 60, 2, 2)", x.moves(4, 56, 60, 2, 2), 3);
        due("2: walk(4)", x.walk(4), 4);
        due("2: removes(0)", x.removes(0), 4);
        due("2: tree(2)", x.tree(2), 0);
        due("2: back()", x.back(), 4);
    }

    private static void third() {
        SceneBoxes x = new SceneBoxes();
        int[] bytes = {115, 49, 32, 50, 32, 51, 32, 52, 32, 53, 59};
        for (int k = 0; k < bytes.length; k++) {
            due("3: type(" + bytes[k] + ")", x.type(bytes[k]), k + 1);
        }
        due("3: does()", x.does(), 1);
        due("3: of(0, 3)", x.of(0, 3), 4);
        due("3: type(100)", x.type(100), 12);
        due("3: does()", x.does(), -22);
        due("3: told(4)", x.told(4), 1);
    }

    private static void fourth() {
        SceneBoxes x = new SceneBoxes();
        int[] bytes = {108, 48, 32, 55, 59};
        for (int k = 0; k < bytes.length; k++) {
            due("4: type(" + bytes[k] + ")", x.type(bytes[k]), k + 1);
        }
        due("4: does()", x.does(), -1000);
        due("4: clear()", x.clear(), 5);
        due("4: does()", x.does(), -10);
        due("4: shape(60, 0, 5, 1, 0)", x.shape(60, 0, 5, 1, 0), -2);
        due("4: node(0, 4)", x.node(0, 4), 0);
        due("4: node(1, 0)", x.node(1, 0), -5);
        due("4: nearest(0, 0)", x.nearest(0, 0), -1);
        due("4: damage(-1, 0)", x.damage(-1, 0), -2);
        due("4: told(0)", x.told(0), 2);
        due("4: back()", x.back(), -3);
        due("4: told(1)", x.told(1), 1);
    }

    public static void main(String[] args) {
        first();
        second();
        third();
        fourth();
        System.out.println(wrong == 0 ? "the examples answer as due" : wrong + " answers are not as due");
        if (wrong != 0) {
            System.exit(1);
        }
    }
}
