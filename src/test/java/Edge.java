import java.util.ArrayList;
import java.util.List;

/**
 * What the tests of boundaries ask with. Each case stands in a new house, so that none is asked more than 512 times,
 * and no case hangs on what another one left.
 */
final class Edge {
    /** What a house comes to before the case. */
    interface Scene {
        void in(Checkdraw x);

        default Scene and(Scene next) {
            return x -> {
                in(x);
                next.in(x);
            };
        }
    }

    interface Call {
        Object on(Checkdraw x);
    }

    interface NumberCall {
        Object on(Checkdraw x, int number);
    }

    static final Class<? extends RuntimeException> INDEX = IndexOutOfBoundsException.class;
    static final Class<? extends RuntimeException> ARGUMENT = IllegalArgumentException.class;
    static final Class<? extends RuntimeException> STATE = IllegalStateException.class;
    static final Class<? extends RuntimeException> UNSUPPORTED = UnsupportedOperationException.class;
    static final Class<? extends RuntimeException> NO_SUCH = java.util.NoSuchElementException.class;
    static final Class<? extends RuntimeException> ARITHMETIC = ArithmeticException.class;

    static final int LEAST = Integer.MIN_VALUE;
    static final int GREATEST = Integer.MAX_VALUE;

    static final Scene NEW = x -> { };

    private Edge() {
    }

    // Scenes.

    static Scene bytes(int text, int many) {
        return x -> Due.fill(x, text, many);
    }

    static Scene everyText(int many) {
        return x -> {
            for (int i = 0; i < 6; i++) {
                Due.fill(x, i, many);
            }
        };
    }

    static Scene everyDrawer(int asked) {
        return x -> {
            for (int i = 0; i < 6; i++) {
                drawer(i, asked).in(x);
            }
        };
    }

    /** A drawer by the one seed that all scenes take, asked so often. */
    static Scene drawer(int drawer, int asked) {
        return x -> {
            x.make(drawer, 7, -7);
            Due.askUpTo(x, drawer, asked);
        };
    }

    /** A drawer and one that is split from it, each asked so often, the splitting counted. */
    static Scene motherAndSplit(int mother, int split, int asked) {
        return drawer(mother, asked - 1).and(x -> x.split(mother, split));
    }

    /** A store of the keys 10, 20 and so on, each with as many as it is the how-manieth as its value. */
    static Scene keys(int store, int many, int drawer) {
        return x -> {
            for (int i = 1; i <= many; i++) {
                x.put(store, 10 * i, i, drawer);
            }
        };
    }

    private static Checkdraw house(Scene scene) {
        Checkdraw house = new Checkdraw();
        scene.in(house);
        return house;
    }

    // Cases.

    static void answers(Scene scene, String call, Call asked, Object want) {
        Checkdraw house = house(scene);
        Due.is(call, Due.outcome(() -> asked.on(house)), want);
    }

    /** The call throws just this, and all that can be told after it is told as without it. */
    static void refuses(Scene scene, Class<? extends RuntimeException> kind, String call, Call asked) {
        Checkdraw house = house(scene);
        Due.is(call, Due.outcome(() -> asked.on(house)), "throws." + kind.getSimpleName());
        Due.is(call + ", and what is told after it", picture(house), picture(house(scene)));
    }

    /** The least and the greatest number are answered; those beyond them are refused. */
    static void range(Scene scene, Class<? extends RuntimeException> kind, int least, int greatest, String call, NumberCall asked) {
        for (int number : new int[] {least, greatest}) {
            Checkdraw house = house(scene);
            Object got = Due.outcome(() -> asked.on(house, number));
            Due.no(call + " " + number + " answered " + got + ", and is refused", got.toString().startsWith("throws."));
        }
        for (int number : new int[] {least - 1, greatest + 1, LEAST, GREATEST}) {
            if (number < least || number > greatest) {
                refuses(scene, kind, call + " " + number, x -> asked.on(x, number));
            }
        }
    }

    /** All that can be told; the longs at its end tell whether a drawer was asked that does not count it. */
    private static String picture(Checkdraw x) {
        List<Object> told = new ArrayList<>();
        told.add("texts");
        for (int i = 0; i < 6; i++) {
            told.add(x.length(i));
            told.add(x.check(i));
        }
        told.add("stores");
        for (int i = 0; i < 4; i++) {
            told.add(x.size(i));
            told.add(x.storeCheck(i));
        }
        told.add("drawers");
        for (int i = 0; i < 6; i++) {
            int drawer = i;
            told.add(Due.outcome(() -> x.asked(drawer)));
            for (int j = 0; j < i; j++) {
                int other = j;
                told.add(Due.outcome(() -> x.isSameWay(drawer, other)));
            }
        }
        told.add("over all");
        told.add(x.checksum());
        told.add(x.isSound());
        told.add("longs");
        for (int i = 0; i < 6; i++) {
            int drawer = i;
            told.add(Due.outcome(() -> x.longs(drawer, 1)));
        }
        return told.toString();
    }
}
