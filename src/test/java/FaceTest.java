import java.lang.reflect.Constructor;
import java.lang.reflect.Field;
import java.lang.reflect.Method;
import java.lang.reflect.Modifier;
import java.util.Random;
import java.util.Set;
import java.util.TreeSet;

/** The public face, as the document and rule 1 of LANGUAGE.md say it, and that no call of it throws. */
public final class FaceTest extends Checks {
    private static final Set<String> METHODS = Set.of(
        "int shape(int,int,int,int,int)", "int moves(int,int,int,int,int)", "int lifts(int,int)",
        "int clips(int,int)", "int removes(int)", "int drawn()", "int of(int,int)", "int view(int,int)",
        "int hit(int,int,int)", "int within(int,int,int,int)", "int nearest(int,int)", "int damage(int,int)",
        "int tree(int)", "int node(int,int)", "int walk(int)", "int type(int)", "int clear()", "int does()",
        "int back()", "int told(int)", "long digest()");
    private static final Set<String> CONSTANTS = Set.of("NONE", "BAD", "NO", "FULL");

    private static void check(boolean holds, String what) {
        if (!holds) {
            tell(what);
        }
    }

    private static String signature(Method m) {
        StringBuilder text = new StringBuilder();
        text.append(m.getReturnType().getName()).append(' ').append(m.getName()).append('(');
        for (int k = 0; k < m.getParameterCount(); k++) {
            text.append(k == 0 ? "" : ",").append(m.getParameterTypes()[k].getName());
        }
        return text.append(')').toString();
    }

    private static void face() {
        check(Modifier.isFinal(SceneBoxes.class.getModifiers()), "the class is not final");
        Set<String> found = new TreeSet<>();
        Set<String> names = new TreeSet<>();
        for (Method m : SceneBoxes.class.getDeclaredMethods()) {
            if (Modifier.isPublic(m.getModifiers())) {
                found.add(signature(m));
                names.add(m.getName());
                check(!Modifier.isStatic(m.getModifiers()), "static: " + m);
            }
        }
        check(found.equals(METHODS), "the public methods are " + found);
        for (Method m : SceneBoxes.class.getDeclaredMethods()) {
            boolean isPublic = Modifier.isPublic(m.getModifiers());
            check(isPublic || Modifier.isPrivate(m.getModifiers()), "neither public nor private: " + m);
            check(isPublic || !names.contains(m.getName()), "a private method with a public name: " + m);
        }
        Set<String> constants = new TreeSet<>();
        for (Field f : SceneBoxes.class.getDeclaredFields()) {
            if (Modifier.isPublic(f.getModifiers())) {
                constants.add(f.getName());
                boolean fixed = Modifier.isStatic(f.getModifiers()) && Modifier.isFinal(f.getModifiers());
                check(fixed && f.getType() == int.class, "not a constant of int: " + f);
            } else {
                check(Modifier.isPrivate(f.getModifiers()), "neither public nor private: " + f);
            }
        }
        check(constants.equals(CONSTANTS), "the public constants are " + constants);
        due("NONE", SceneBoxes.NONE, NONE);
        due("BAD", SceneBoxes.BAD, BAD);
        due("NO", SceneBoxes.NO, NO);
        due("FULL", SceneBoxes.FULL, FULL);
        Constructor<?>[] made = SceneBoxes.class.getDeclaredConstructors();
        check(made.length == 1 && made[0].getParameterCount() == 0 && Modifier.isPublic(made[0].getModifiers()),
            "not just the public constructor");
    }

    private static void inside() {
        for (Class<?> c : SceneBoxes.class.getDeclaredClasses()) {
            int m = c.getModifiers();
            check(Modifier.isStatic(m), "not static: " + c);
            check(!Modifier.isPublic(m) && !Modifier.isProtected(m), "too visible: " + c);
        }
    }

    /** Far more calls than the document allows, with numbers at the edges and anywhere. */
    private static void nothingIsThrown() {
        int[] edges = {0, 1, 15, 16, 17, 63, 64, 65, 99, 100, 127, 128, -1, Integer.MIN_VALUE, Integer.MAX_VALUE};
        String signs = "smlcrd;  0123456789";
        Random dice = new Random(1);
        SceneBoxes x = new SceneBoxes();
        for (int k = 0; k < 300_000; k++) {
            int[] v = new int[5];
            for (int i = 0; i < 5; i++) {
                v[i] = dice.nextInt(3) == 0 ? edges[dice.nextInt(edges.length)] : dice.nextInt(20);
            }
            switch (dice.nextInt(24)) {
                case 0, 1, 2 -> x.shape(v[0], v[1], v[2], v[3], v[4]);
                case 3, 4 -> x.moves(v[0], v[1], v[2], v[3], v[4]);
                case 5 -> x.lifts(v[0], v[1]);
                case 6 -> x.clips(v[0], v[1]);
                case 7 -> x.removes(v[0]);
                case 8 -> x.of(v[0], v[1]);
                case 9 -> x.view(v[0], v[1]);
                case 10 -> x.hit(v[0], v[1], v[2]);
                case 11 -> x.within(v[0], v[1], v[2], v[3]);
                case 12 -> x.nearest(v[0], v[1]);
                case 13 -> x.damage(v[0], v[1]);
                case 14 -> x.tree(v[0]);
                case 15 -> x.node(v[0], v[1]);
                case 16 -> x.walk(v[0]);
                case 17 -> x.type(v[0]);
                case 18 -> x.type(signs.charAt(dice.nextInt(signs.length())));
                case 19 -> x.does();
                case 20 -> x.told(v[0]);
                case 21 -> x.digest();
                case 22 -> x.back();
                default -> { if (dice.nextInt(9) == 0) x.clear(); else x.drawn(); }
            }
        }
    }

    public static void main(String[] args) {
        about("the public face");
        face();
        inside();
        nothingIsThrown();
        end("the face is the document's, and nothing is thrown");
    }
}
