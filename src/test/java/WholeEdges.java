import java.math.BigInteger;

/** The boundaries of promises 40 to 43, and of how often a house is asked. */
final class WholeEdges {
    private static final String NO_TEXT = "Throws `IndexOutOfBoundsException` if there is no such text";

    static void test() {
        fullShare();
        meanByte();
        checksum();
        isSound();
        lastCalls();
    }

    private static void fullShare() {
        Document.says(40, NO_TEXT);
        Edge.range(Edge.everyText(3), Edge.INDEX, 0, 5, "fullShare of the text", (x, n) -> x.fullShare(n));
        Document.says(40, "Returns how many it has divided by 120, both converted to float.");
        Edge.answers(Edge.NEW, "fullShare of an empty text", x -> x.fullShare(0), 0f);
        Edge.answers(Edge.bytes(0, 1), "fullShare of a byte", x -> x.fullShare(0), 1f / 120f);
        Edge.answers(Edge.bytes(0, 119), "fullShare of 119 bytes", x -> x.fullShare(0), 119f / 120f);
        Edge.answers(Edge.bytes(0, 120), "fullShare of a full text", x -> x.fullShare(0), 1f);
    }

    private static void meanByte() {
        Document.says(41, NO_TEXT);
        Edge.range(Edge.everyText(3), Edge.INDEX, 0, 5, "meanByte of the text", (x, n) -> x.meanByte(n));
        Document.says(41, "Throws `ArithmeticException` if it has none");
        for (int text = 0; text < 6; text++) {
            int t = text;
            Edge.refuses(Edge.NEW, Edge.ARITHMETIC, "meanByte of the empty text " + t, x -> x.meanByte(t));
        }
        Edge.refuses(Edge.bytes(0, 120).and(x -> x.cut(0, 0)), Edge.ARITHMETIC, "meanByte of a text that was cut to none", x -> x.meanByte(0));
        for (int sign : new int[] {0, 1, 255}) {
            Edge.answers(Edge.NEW.and(x -> x.add(0, sign)), "meanByte of the byte " + sign, x -> x.meanByte(0), (double) sign);
            Edge.answers(x -> {
                for (int i = 0; i < 120; i++) {
                    x.add(0, sign);
                }
            }, "meanByte of 120 times the byte " + sign, x -> x.meanByte(0), (double) sign);
        }
        Edge.answers(Edge.bytes(0, 120).and(x -> x.cut(0, 1)), "meanByte of what a cut left", x -> x.meanByte(0), 11.0);
        Document.saysFirst(41);
        Edge.refuses(Edge.NEW, Edge.INDEX, "meanByte of no text in a house of empty ones", x -> x.meanByte(6));
    }

    /** All texts and stores are full, and all drawers were asked 400 times but the last one, which is not there. */
    private static Edge.Scene full() {
        Edge.Scene scene = Edge.everyText(120).and(Edge.drawer(4, 400));
        for (int i = 0; i < 4; i++) {
            scene = scene.and(Edge.drawer(i, 360)).and(Edge.keys(i, 40, i));
        }
        return scene;
    }

    private static void checksum() {
        Document.says(42, "Returns 7 at first, then 31 times itself plus each of: for each text how many bytes it has, and its check; for each drawer how often it was asked, -1 for none; for each store how many keys it has, and its check; a long that goes round.");
        Edge.answers(Edge.NEW, "checksum of a new house", Checkdraw::checksum, sum(new Checkdraw()).longValue());
        Edge.answers(Edge.drawer(0, 0), "checksum with a drawer that was not asked", Checkdraw::checksum, sum(in(Edge.drawer(0, 0))).longValue());
        Edge.answers(full(), "checksum of a full house", Checkdraw::checksum, sum(in(full())).longValue());
        Due.yes("the sum goes over the greatest long", sum(in(full())).bitLength() > 64);
        long before = new Checkdraw().checksum();
        for (int drawer = 0; drawer < 6; drawer++) {
            int d = drawer;
            long change = BigInteger.valueOf(31).pow(13 - drawer).longValue();
            Edge.answers(Edge.drawer(d, 0), "change of the checksum by the drawer " + d, x -> x.checksum() - before, change);
            Edge.answers(Edge.drawer(d, 400), "change of the checksum by the drawer " + d + ", asked 400 times", x -> x.checksum() - before, 401 * change);
        }
    }

    private static Checkdraw in(Edge.Scene scene) {
        Checkdraw house = new Checkdraw();
        scene.in(house);
        return house;
    }

    /** The same sum, in numbers that never go round. */
    private static BigInteger sum(Checkdraw x) {
        BigInteger sum = BigInteger.valueOf(7);
        for (int i = 0; i < 6; i++) {
            sum = more(more(sum, x.length(i)), x.check(i));
        }
        for (int i = 0; i < 6; i++) {
            int drawer = i;
            Object asked = Due.outcome(() -> x.asked(drawer));
            sum = more(sum, asked instanceof Integer number ? number : -1);
        }
        for (int i = 0; i < 4; i++) {
            sum = more(more(sum, x.size(i)), x.storeCheck(i));
        }
        return sum;
    }

    private static BigInteger more(BigInteger sum, long number) {
        return sum.multiply(BigInteger.valueOf(31)).add(BigInteger.valueOf(number));
    }

    private static void isSound() {
        Document.says(43, "the checks of all texts anew, each two of them joined and parted, and the order of all stores.", "Returns whether all of this is so.");
        Edge.answers(Edge.NEW, "isSound of a new house", Checkdraw::isSound, true);
        Edge.answers(full(), "isSound of a full house", Checkdraw::isSound, true);
        Edge.answers(full().and(x -> x.lay(0, 116, 0)).and(x -> x.lay(1, 0, -1)), "isSound with the least and the greatest check", Checkdraw::isSound, true);
        Edge.answers(full(), "checksum after isSound, less that ahead of it", x -> {
            long ahead = x.checksum();
            x.isSound();
            return x.checksum() - ahead;
        }, 0L);
    }

    /** The calls up to the last one that is promised are answered as the first ones; what comes then is free. */
    private static void lastCalls() {
        Due.about("What it is: An object is used for at most 512 calls after it has been made");
        Checkdraw x = new Checkdraw();
        x.make(0, 1, 2);
        for (int i = 0; i < 170; i++) {
            Due.is("put, call " + (3 * i + 2), x.put(0, i, i, 0), -1);
            Due.is("get, call " + (3 * i + 3), x.get(0, i), i);
            Due.is("remove, call " + (3 * i + 4), x.remove(0, i), i);
        }
        Due.is("asked, call 512", x.asked(0), 170);
    }
}
