/** Promises 17 to 28: drawers, their ways, what they tell, and what is shuffled and selected by them. */
final class DrawersTest {
    private static final int[] NO_MANY = {0, 51, -1, Integer.MIN_VALUE, Integer.MAX_VALUE};

    public static void main(String[] args) {
        make();
        split();
        again();
        asked();
        isSameWay();
        waysDiffer();
        waysWithSplitting();
        alike();
        below();
        between();
        longsAndTruths();
        shuffle();
        select();
        selectFinds();
        Due.end("DrawersTest");
    }

    private static void make() {
        Checkdraw x = new Checkdraw();
        Due.no("make of a new one", x.make(5, 1, 2));
        Due.is("asked", x.asked(5), 0);
        x.below(5, 3, 2);
        x.split(5, 5);
        Due.yes("make in place of one", x.make(5, 1, 2));
        Due.is("asked after it", x.asked(5), 0);
        Due.is("longs of it, as no splitting is left", x.longs(5, 3), 3);
        for (int drawer : Due.NO_TEXT) {
            Due.refused(x, Due.INDEX, "make of no drawer", () -> x.make(drawer, 1, 2));
        }
        x.make(0, 1, -2);
        x.make(1, 0, -2);
        x.make(2, 1, -2);
        x.make(3, -1, -2);
        x.make(4, 1, 2);
        Due.yes("one seed", x.isSameWay(0, 2));
        Due.no("another upper half", x.isSameWay(0, 1));
        Due.no("a lower half below 0 is no upper one", x.isSameWay(1, 3));
        Due.no("another lower half", x.isSameWay(0, 4));
        for (int bit = 0; bit < 32; bit++) {
            x.make(1, 1 ^ 1 << bit, -2);
            Due.no("the bit " + bit + " of the upper half is another one", x.isSameWay(0, 1));
            x.make(1, 1, -2 ^ 1 << bit);
            Due.no("the bit " + bit + " of the lower half is another one", x.isSameWay(0, 1));
        }
    }

    private static void split() {
        Checkdraw x = new Checkdraw();
        x.make(0, 3, 4);
        x.below(0, 6, 5);
        Due.is("split", x.split(0, 1), 6);
        Due.is("asked of the mother", x.asked(0), 6);
        Due.is("asked of the other one", x.asked(1), 6);
        Due.no("the mother and the other one", x.isSameWay(0, 1));
        Due.is("split of the split one to itself", x.split(1, 1), 7);
        Due.is("asked after it", x.asked(1), 7);
        Due.is("split to one that is there", x.split(1, 0), 8);
        Due.is("asked after it", x.asked(0), 8);
        for (int drawer : Due.NO_TEXT) {
            Due.refused(x, Due.INDEX, "split of no drawer", () -> x.split(drawer, 0));
            Due.refused(x, Due.INDEX, "split to no drawer", () -> x.split(0, drawer));
        }
        Due.refused(x, Due.INDEX, "split of one that is not made", () -> x.split(2, 0));
        Due.askUpTo(x, 0, 399);
        Due.is("the last split", x.split(0, 2), 400);
        Due.refused(x, Due.STATE, "split after all", () -> x.split(0, 3));
        Due.refused(x, Due.STATE, "split of the split one after all", () -> x.split(2, 3));
        Due.refused(x, Due.INDEX, "split after all to no drawer", () -> x.split(0, 6));
        Due.refused(x, Due.INDEX, "nothing was split to it", () -> x.asked(3));
    }

    private static void again() {
        Checkdraw x = new Checkdraw();
        x.make(0, 3, 4);
        x.below(0, 6, 5);
        x.between(0, -9, 9, 5);
        x.longs(0, 5);
        x.truths(0, 5);
        x.put(0, 1, 1, 0);
        Due.is("again", x.again(0, 1), 21);
        Due.yes("isSameWay after it", x.isSameWay(0, 1));
        Due.is("alike after it", x.alike(0, 1, 50), 50);
        Due.is("again to itself", x.again(0, 0), 71);
        Due.is("alike after it", x.alike(1, 0, 50), 50);
        Due.is("again in place of one", x.again(0, 1), 121);
        for (int drawer : Due.NO_TEXT) {
            Due.refused(x, Due.INDEX, "again of no drawer", () -> x.again(drawer, 0));
            Due.refused(x, Due.INDEX, "again to no drawer", () -> x.again(0, drawer));
        }
        Due.refused(x, Due.INDEX, "again of one that is not made", () -> x.again(2, 0));
        x.split(0, 2);
        Due.refused(x, Due.UNSUPPORTED, "again of a mother", () -> x.again(0, 3));
        Due.refused(x, Due.UNSUPPORTED, "again of a split one", () -> x.again(2, 3));
        Due.refused(x, Due.INDEX, "again of a split one to no drawer", () -> x.again(2, 6));
        Due.is("again in place of a split one", x.again(1, 2), 121);
        Due.is("longs of it", x.longs(2, 1), 1);
        Due.refused(x, Due.INDEX, "nothing was made there", () -> x.asked(3));
    }

    private static void asked() {
        Checkdraw x = new Checkdraw();
        x.make(0, 0, 0);
        Due.is("asked at first", x.asked(0), 0);
        x.below(0, 1, 50);
        Due.is("asked then", x.asked(0), 50);
        for (int drawer : Due.NO_TEXT) {
            Due.refused(x, Due.INDEX, "asked of no drawer", () -> x.asked(drawer));
        }
        Due.refused(x, Due.INDEX, "asked of one that is not made", () -> x.asked(1));
    }

    private static void isSameWay() {
        Checkdraw x = new Checkdraw();
        x.make(0, 1, 1);
        x.make(1, 1, 1);
        Due.yes("isSameWay of one and itself", x.isSameWay(0, 0));
        Due.yes("isSameWay of one seed", x.isSameWay(0, 1));
        x.below(0, 9, 2);
        Due.no("isSameWay, one asked more", x.isSameWay(0, 1));
        x.below(1, 9, 1);
        x.below(1, 9, 1);
        Due.yes("isSameWay, both asked one by one or together", x.isSameWay(0, 1));
        for (int drawer : Due.NO_TEXT) {
            Due.refused(x, Due.INDEX, "isSameWay of no drawer", () -> x.isSameWay(drawer, 0));
            Due.refused(x, Due.INDEX, "isSameWay with no drawer", () -> x.isSameWay(0, drawer));
        }
        Due.refused(x, Due.INDEX, "isSameWay of one that is not made", () -> x.isSameWay(2, 0));
        Due.refused(x, Due.INDEX, "isSameWay with one that is not made", () -> x.isSameWay(0, 2));
    }

    /** Each kind of asking, with its bounds, is told from each other one. */
    private static void waysDiffer() {
        int kinds = 11;
        for (int i = 0; i < kinds; i++) {
            for (int j = 0; j < kinds; j++) {
                Checkdraw x = new Checkdraw();
                x.make(0, 1, 1);
                x.make(1, 1, 1);
                askOne(x, 0, i);
                askOne(x, 1, j);
                Due.is("isSameWay of kinds " + i + " and " + j, x.isSameWay(0, 1), i == j);
            }
        }
    }

    private static void askOne(Checkdraw x, int drawer, int kind) {
        switch (kind) {
            case 0: x.put(drawer, 7, 7, drawer); break;
            case 1: x.below(drawer, 5, 1); break;
            case 2: x.below(drawer, 6, 1); break;
            case 3: x.between(drawer, 0, 5, 1); break;
            case 4: x.between(drawer, 0, 6, 1); break;
            case 5: x.between(drawer, 1, 5, 1); break;
            case 6: x.longs(drawer, 1); break;
            case 7: x.truths(drawer, 1); break;
            case 8: x.split(drawer, 5); break;
            case 9: x.split(drawer, drawer); break;
            default: x.between(drawer, -1, 5, 1); break;
        }
    }

    private static void waysWithSplitting() {
        Checkdraw x = new Checkdraw();
        x.make(0, 1, 1);
        x.make(1, 1, 1);
        x.split(0, 2);
        x.split(1, 3);
        Due.yes("two mothers of one way", x.isSameWay(0, 1));
        Due.yes("two split ones of one way", x.isSameWay(2, 3));
        Due.no("a mother and a split one", x.isSameWay(0, 3));
        x.below(2, 5, 1);
        Due.no("one of them asked more", x.isSameWay(2, 3));
        x.below(3, 5, 1);
        Due.yes("the other one too", x.isSameWay(2, 3));
        x.below(0, 5, 1);
        Due.no("the mother after it", x.isSameWay(0, 2));
        Due.write(x, 0, "b");
        x.select(0, 0, 1);
        Due.no("a selecting is asking", x.isSameWay(0, 1));
        x.make(0, 1, 1);
        x.make(1, 1, 1);
        x.select(0, 0, 0);
        x.split(1, 4);
        Due.yes("a selecting is a splitting", x.isSameWay(0, 1));
        x.make(0, 1, 1);
        x.make(1, 1, 1);
        x.split(0, 0);
        x.split(1, 4);
        Due.yes("split to itself, and to another one", x.isSameWay(0, 4));
    }

    private static void alike() {
        Checkdraw x = new Checkdraw();
        x.make(0, 1, 1);
        x.make(1, 1, 1);
        x.make(2, 1, 2);
        Due.is("alike of 50", x.alike(0, 1, 50), 50);
        Due.is("alike of 1", x.alike(1, 0, 1), 1);
        Due.is("asked of the one", x.asked(0), 51);
        Due.is("asked of the other one", x.asked(1), 51);
        for (int drawer : Due.NO_TEXT) {
            Due.refused(x, Due.INDEX, "alike of no drawer", () -> x.alike(drawer, 0, 0));
            Due.refused(x, Due.INDEX, "alike with no drawer", () -> x.alike(0, drawer, 0));
        }
        Due.refused(x, Due.INDEX, "alike of one that is not made", () -> x.alike(3, 3, 0));
        Due.refused(x, Due.ARGUMENT, "alike of one with itself", () -> x.alike(0, 0, 1));
        for (int many : NO_MANY) {
            Due.refused(x, Due.ARGUMENT, "alike of " + many, () -> x.alike(0, 2, many));
        }
        Due.refused(x, Due.UNSUPPORTED, "alike of two seeds", () -> x.alike(0, 2, 1));
        Due.askUpTo(x, 0, 351);
        Due.askUpTo(x, 1, 351);
        Due.refused(x, Due.STATE, "alike, 401 in all", () -> x.alike(0, 1, 50));
        Due.is("alike, 400 in all", x.alike(0, 1, 49), 49);
        Due.refused(x, Due.STATE, "alike after all", () -> x.alike(0, 1, 1));
        Due.refused(x, Due.UNSUPPORTED, "alike after all of two seeds", () -> x.alike(0, 2, 1));
        x.make(0, 1, 1);
        x.make(1, 1, 1);
        x.split(0, 0);
        x.split(1, 1);
        Due.yes("one way with a splitting", x.isSameWay(0, 1));
        Due.refused(x, Due.UNSUPPORTED, "alike of one way with a splitting", () -> x.alike(0, 1, 1));
        Due.askUpTo(x, 0, 400);
        Due.askUpTo(x, 1, 400);
        Due.refused(x, Due.UNSUPPORTED, "alike after all of one way with a splitting", () -> x.alike(0, 1, 1));
    }

    private static void below() {
        Checkdraw x = new Checkdraw();
        x.make(0, 1, 1);
        for (int bound : new int[] {1, 2, 7, 1 << 30, Integer.MAX_VALUE}) {
            Due.is("below " + bound, x.below(0, bound, 50), 50);
        }
        Due.is("below, once", x.below(0, 3, 1), 1);
        Due.is("asked after it", x.asked(0), 251);
        for (int drawer : Due.NO_TEXT) {
            Due.refused(x, Due.INDEX, "below by no drawer", () -> x.below(drawer, 0, 0));
        }
        Due.refused(x, Due.INDEX, "below by one that is not made", () -> x.below(1, 0, 0));
        for (int bound : new int[] {0, -1, Integer.MIN_VALUE}) {
            Due.refused(x, Due.ARGUMENT, "below " + bound, () -> x.below(0, bound, 1));
        }
        for (int many : NO_MANY) {
            Due.refused(x, Due.ARGUMENT, "below, " + many, () -> x.below(0, 1, many));
        }
        Due.askUpTo(x, 0, 351);
        Due.refused(x, Due.STATE, "below, 401 in all", () -> x.below(0, 5, 50));
        Due.is("below, 400 in all", x.below(0, 5, 49), 49);
        Due.refused(x, Due.STATE, "below after all", () -> x.below(0, 5, 1));
        Due.refused(x, Due.ARGUMENT, "below 0 after all", () -> x.below(0, 0, 1));
        x.make(1, 6, 6);
        x.split(1, 2);
        Due.is("below by a split one", x.below(2, 5, 50), 50);
    }

    private static void between() {
        Checkdraw x = new Checkdraw();
        x.make(0, 1, 1);
        int[][] bounds = {{0, 1}, {-5, 5}, {Integer.MIN_VALUE, Integer.MAX_VALUE}, {Integer.MIN_VALUE, Integer.MIN_VALUE + 1}, {Integer.MAX_VALUE - 1, Integer.MAX_VALUE}};
        for (int[] bound : bounds) {
            Due.is("between " + bound[0] + " and " + bound[1], x.between(0, bound[0], bound[1], 50), 50);
        }
        Due.is("between, once", x.between(0, 3, 4, 1), 1);
        Due.is("asked after it", x.asked(0), 251);
        for (int drawer : Due.NO_TEXT) {
            Due.refused(x, Due.INDEX, "between by no drawer", () -> x.between(drawer, 0, 0, 0));
        }
        Due.refused(x, Due.INDEX, "between by one that is not made", () -> x.between(1, 0, 0, 0));
        Due.refused(x, Due.ARGUMENT, "between(0, 5, 5, 1)", () -> x.between(0, 5, 5, 1));
        Due.refused(x, Due.ARGUMENT, "between(0, 5, 4, 1)", () -> x.between(0, 5, 4, 1));
        Due.refused(x, Due.ARGUMENT, "between the greatest and the least", () -> x.between(0, Integer.MAX_VALUE, Integer.MIN_VALUE, 1));
        for (int many : NO_MANY) {
            Due.refused(x, Due.ARGUMENT, "between, " + many, () -> x.between(0, 0, 1, many));
        }
        Due.askUpTo(x, 0, 351);
        Due.refused(x, Due.STATE, "between, 401 in all", () -> x.between(0, 0, 5, 50));
        Due.is("between, 400 in all", x.between(0, 0, 5, 49), 49);
        Due.refused(x, Due.STATE, "between after all", () -> x.between(0, 0, 5, 1));
        Due.refused(x, Due.ARGUMENT, "between wrong bounds after all", () -> x.between(0, 5, 5, 1));
    }

    private static void longsAndTruths() {
        Checkdraw x = new Checkdraw();
        x.make(0, 1, 1);
        x.make(1, 1, 1);
        x.below(0, 5, 3);
        x.below(1, 5, 3);
        Due.is("longs of 50", x.longs(0, 50), 50);
        Due.is("longs of 1", x.longs(0, 1), 1);
        Due.is("asked after it", x.asked(0), 54);
        Due.is("truths of 50", x.truths(1, 50), 50);
        Due.is("truths of 1", x.truths(1, 1), 1);
        Due.is("asked after it", x.asked(1), 54);
        for (int drawer : Due.NO_TEXT) {
            Due.refused(x, Due.INDEX, "longs of no drawer", () -> x.longs(drawer, 0));
            Due.refused(x, Due.INDEX, "truths of no drawer", () -> x.truths(drawer, 0));
        }
        Due.refused(x, Due.INDEX, "longs of one that is not made", () -> x.longs(2, 0));
        Due.refused(x, Due.INDEX, "truths of one that is not made", () -> x.truths(2, 0));
        x.split(1, 2);
        x.split(2, 3);
        for (int many : NO_MANY) {
            Due.refused(x, Due.ARGUMENT, "longs of " + many, () -> x.longs(2, many));
            Due.refused(x, Due.ARGUMENT, "truths of " + many, () -> x.truths(2, many));
        }
        for (int drawer = 1; drawer <= 3; drawer++) {
            int at = drawer;
            Due.askUpTo(x, at, 400);
            Due.refused(x, Due.UNSUPPORTED, "longs of a way with a splitting", () -> x.longs(at, 1));
            Due.refused(x, Due.UNSUPPORTED, "truths of a way with a splitting", () -> x.truths(at, 1));
        }
        Due.askUpTo(x, 0, 351);
        x.again(0, 4);
        Due.refused(x, Due.STATE, "longs, 401 in all", () -> x.longs(0, 50));
        Due.refused(x, Due.STATE, "truths, 401 in all", () -> x.truths(4, 50));
        Due.is("longs, 400 in all", x.longs(0, 49), 49);
        Due.is("truths, 400 in all", x.truths(4, 49), 49);
        Due.refused(x, Due.STATE, "longs after all", () -> x.longs(0, 1));
        Due.refused(x, Due.STATE, "truths after all", () -> x.truths(4, 1));
    }

    private static void shuffle() {
        Checkdraw x = new Checkdraw();
        x.make(0, 1, 1);
        x.make(1, 1, 1);
        Due.is("shuffle of an empty text", x.shuffle(0, 0), 0);
        x.add(0, 5);
        Due.is("shuffle of one byte", x.shuffle(0, 0), 1);
        Due.is("asked after it", x.asked(0), 0);
        Due.fill(x, 0, 4);
        long before = x.check(0);
        Due.is("shuffle of four bytes", x.shuffle(0, 0), 4);
        Due.is("the text stays", x.check(0), before);
        for (int i = 0; i < 3; i++) {
            Due.no("isSameWay amid it", x.isSameWay(0, 1));
            x.between(1, i, 4, 1);
        }
        Due.yes("isSameWay after it", x.isSameWay(0, 1));
        Due.is("alike after it", x.alike(0, 1, 30), 30);
        Due.fill(x, 1, 120);
        Due.is("shuffle of a full text", x.shuffle(1, 0), 120);
        Due.is("asked after it", x.asked(0), 152);
        for (int text : Due.NO_TEXT) {
            Due.refused(x, Due.INDEX, "shuffle of no text", () -> x.shuffle(text, 0));
            Due.refused(x, Due.INDEX, "shuffle by no drawer", () -> x.shuffle(0, text));
        }
        Due.refused(x, Due.INDEX, "shuffle by one that is not made", () -> x.shuffle(0, 2));
        Due.askUpTo(x, 0, 282);
        Due.refused(x, Due.STATE, "shuffle, 401 in all", () -> x.shuffle(1, 0));
        x.cut(1, 119);
        Due.is("shuffle, 400 in all", x.shuffle(1, 0), 119);
        Due.is("shuffle of no asking after all", x.shuffle(2, 0), 0);
        Due.refused(x, Due.STATE, "shuffle after all", () -> x.shuffle(0, 0));
        x.split(1, 2);
        Due.refused(x, Due.UNSUPPORTED, "shuffle by a mother", () -> x.shuffle(0, 1));
        Due.refused(x, Due.UNSUPPORTED, "shuffle of an empty text by a split one", () -> x.shuffle(3, 2));
        Due.askUpTo(x, 2, 400);
        Due.refused(x, Due.UNSUPPORTED, "shuffle after all by a split one", () -> x.shuffle(0, 2));
    }

    private static void select() {
        Checkdraw x = new Checkdraw();
        x.make(0, 1, 1);
        x.addMore(0, 6, 3, 1, 2, 1, 9, 0, 0, 0);
        Due.is("select", x.select(0, 0, 0), 0);
        Due.is("asked after it", x.asked(0), 1);
        Due.refused(x, Due.UNSUPPORTED, "its way has a splitting", () -> x.longs(0, 1));
        for (int i = 1; i < 6; i++) {
            int at = i;
            Due.refused(x, Due.INDEX, "no other drawer is there", () -> x.asked(at));
        }
        for (int text : Due.NO_TEXT) {
            Due.refused(x, Due.INDEX, "select in no text", () -> x.select(text, -1, 0));
            Due.refused(x, Due.INDEX, "select by no drawer", () -> x.select(0, -1, text));
        }
        Due.refused(x, Due.INDEX, "select by one that is not made", () -> x.select(0, -1, 1));
        for (int index : new int[] {-1, 6, Integer.MIN_VALUE, Integer.MAX_VALUE}) {
            Due.refused(x, Due.NO_SUCH, "select(0, " + index + ", 0)", () -> x.select(0, index, 0));
        }
        Due.refused(x, Due.NO_SUCH, "select in an empty text", () -> x.select(1, 0, 0));
        Due.askUpTo(x, 0, 399);
        Due.is("the last select", x.select(0, 5, 0), 9);
        Due.refused(x, Due.STATE, "select after all", () -> x.select(0, 5, 0));
        Due.refused(x, Due.NO_SUCH, "select of none after all", () -> x.select(0, 6, 0));
    }

    private static void selectFinds() {
        for (int many : new int[] {1, 2, 3, 17, 120}) {
            Checkdraw x = new Checkdraw();
            x.make(0, many, 1);
            for (int i = 0; i < many; i++) {
                x.add(0, many == 17 ? i % 3 : i * i * 7 + 200 & 255);
            }
            int[] sorted = new int[many];
            for (int i = 0; i < many; i++) {
                sorted[i] = x.byteAt(0, i);
            }
            java.util.Arrays.sort(sorted);
            long before = x.check(0);
            for (int i = 0; i < many; i++) {
                Due.is("select of rank " + i + " of " + many, x.select(0, i, 0), sorted[i]);
            }
            Due.is("the text stays", x.check(0), before);
            Due.is("asked after it", x.asked(0), many);
        }
    }
}
