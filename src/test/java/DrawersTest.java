/** Promises 17 to 28: drawers, their ways, what they tell, and what is shuffled and selected by them. */
final class DrawersTest {
    public static void main(String[] args) {
        make();
        split();
        again();
        isSameWay();
        waysDiffer();
        waysWithSplitting();
        alike();
        below();
        between();
        longsAndTruths();
        shuffle();
        selectFinds();
        Due.end("DrawersTest");
    }

    private static void make() {
        Checkdraw x = new Checkdraw();
        Due.no("make of a new one", x.make(5, 1, 2));
        x.below(5, 3, 2);
        Due.yes("make in place of one", x.make(5, 1, 2));
        Due.is("asked after it", x.asked(5), 0);
        x.make(0, 1, -2);
        x.make(1, 0, -2);
        x.make(2, 1, -2);
        x.make(3, -1, -2);
        x.make(4, 1, 2);
        Due.yes("one seed", x.isSameWay(0, 2));
        Due.no("another upper half", x.isSameWay(0, 1));
        Due.no("a lower half below 0 is no upper one", x.isSameWay(1, 3));
        Due.no("another lower half", x.isSameWay(0, 4));
        for (int bit = 0; bit < 32; bit++) {
            x.make(1, 1 ^ 1 << bit, -2);
            Due.no("the bit " + bit + " of the upper half is another one", x.isSameWay(0, 1));
            x.make(1, 1, -2 ^ 1 << bit);
            Due.no("the bit " + bit + " of the lower half is another one", x.isSameWay(0, 1));
        }
    }

    private static void split() {
        Checkdraw x = new Checkdraw();
        x.make(0, 3, 4);
        x.below(0, 6, 5);
        Due.is("split", x.split(0, 1), 6);
        Due.is("asked of the mother", x.asked(0), 6);
        Due.is("asked of the other one", x.asked(1), 6);
        Due.no("the mother and the other one", x.isSameWay(0, 1));
        Due.is("split of the split one to itself", x.split(1, 1), 7);
        Due.is("asked after it", x.asked(1), 7);
        Due.is("split to one that is there", x.split(1, 0), 8);
        Due.is("asked after it", x.asked(0), 8);
        Due.is("below by it", x.below(0, 5, 50), 50);
    }

    private static void again() {
        Checkdraw x = new Checkdraw();
        x.make(0, 3, 4);
        x.below(0, 6, 5);
        x.between(0, -9, 9, 5);
        x.longs(0, 5);
        x.truths(0, 5);
        x.put(0, 1, 1, 0);
        Due.is("again", x.again(0, 1), 21);
        Due.yes("isSameWay after it", x.isSameWay(0, 1));
        Due.is("alike after it", x.alike(0, 1, 50), 50);
        Due.is("again to itself", x.again(0, 0), 71);
        Due.is("alike after it", x.alike(1, 0, 50), 50);
        Due.is("again in place of one", x.again(0, 1), 121);
        x.split(0, 2);
        Due.is("again in place of a split one", x.again(1, 2), 121);
        Due.is("longs of it", x.longs(2, 1), 1);
    }

    private static void isSameWay() {
        Checkdraw x = new Checkdraw();
        x.make(0, 1, 1);
        x.make(1, 1, 1);
        Due.yes("isSameWay of one and itself", x.isSameWay(0, 0));
        Due.yes("isSameWay of one seed", x.isSameWay(0, 1));
        x.below(0, 9, 2);
        Due.no("isSameWay, one asked more", x.isSameWay(0, 1));
        x.below(1, 9, 1);
        x.below(1, 9, 1);
        Due.yes("isSameWay, both asked one by one or together", x.isSameWay(0, 1));
    }

    /** Each kind of asking, with its bounds, is told from each other one. */
    private static void waysDiffer() {
        int kinds = 11;
        for (int i = 0; i < kinds; i++) {
            for (int j = 0; j < kinds; j++) {
                Checkdraw x = new Checkdraw();
                x.make(0, 1, 1);
                x.make(1, 1, 1);
                askOne(x, 0, i);
                askOne(x, 1, j);
                Due.is("isSameWay of kinds " + i + " and " + j, x.isSameWay(0, 1), i == j);
            }
        }
    }

    private static void askOne(Checkdraw x, int drawer, int kind) {
        switch (kind) {
            case 0: x.put(drawer, 7, 7, drawer); break;
            case 1: x.below(drawer, 5, 1); break;
            case 2: x.below(drawer, 6, 1); break;
            case 3: x.between(drawer, 0, 5, 1); break;
            case 4: x.between(drawer, 0, 6, 1); break;
            case 5: x.between(drawer, 1, 5, 1); break;
            case 6: x.longs(drawer, 1); break;
            case 7: x.truths(drawer, 1); break;
            case 8: x.split(drawer, 5); break;
            case 9: x.split(drawer, drawer); break;
            default: x.between(drawer, -1, 5, 1); break;
        }
    }

    private static void waysWithSplitting() {
        Checkdraw x = new Checkdraw();
        x.make(0, 1, 1);
        x.make(1, 1, 1);
        x.split(0, 2);
        x.split(1, 3);
        Due.yes("two mothers of one way", x.isSameWay(0, 1));
        Due.yes("two split ones of one way", x.isSameWay(2, 3));
        Due.no("a mother and a split one", x.isSameWay(0, 3));
        x.below(2, 5, 1);
        Due.no("one of them asked more", x.isSameWay(2, 3));
        x.below(3, 5, 1);
        Due.yes("the other one too", x.isSameWay(2, 3));
        x.below(0, 5, 1);
        Due.no("the mother after it", x.isSameWay(0, 2));
        Due.write(x, 0, "b");
        x.select(0, 0, 1);
        Due.no("a selecting is asking", x.isSameWay(0, 1));
        x.make(0, 1, 1);
        x.make(1, 1, 1);
        x.select(0, 0, 0);
        x.split(1, 4);
        Due.yes("a selecting is a splitting", x.isSameWay(0, 1));
        x.make(0, 1, 1);
        x.make(1, 1, 1);
        x.split(0, 0);
        x.split(1, 4);
        Due.yes("split to itself, and to another one", x.isSameWay(0, 4));
    }

    private static void alike() {
        Checkdraw x = new Checkdraw();
        x.make(0, 1, 1);
        x.make(1, 1, 1);
        Due.is("alike of 20", x.alike(0, 1, 20), 20);
        Due.is("alike the other way round", x.alike(1, 0, 3), 3);
        Due.is("asked of the one", x.asked(0), 23);
        Due.is("asked of the other one", x.asked(1), 23);
        // What others do in between changes nothing.
        x.make(2, 1, 1);
        x.below(2, 5, 7);
        x.again(0, 3);
        x.split(3, 4);
        Due.is("alike after others were asked", x.alike(0, 1, 50), 50);
    }

    private static void below() {
        for (int seed = 0; seed < 20; seed++) {
            Checkdraw x = new Checkdraw();
            x.make(0, seed, 1);
            x.split(0, 1);
            Due.is("below by a drawer of the seed " + seed, x.below(0, seed * seed * 3 + 1, 50), 50);
            Due.is("below by the split one", x.below(1, seed * seed * 3 + 1, 50), 50);
            Due.is("asked after it", x.asked(1), 51);
        }
    }

    private static void between() {
        for (int seed = 0; seed < 20; seed++) {
            Checkdraw x = new Checkdraw();
            x.make(0, seed, 1);
            x.split(0, 1);
            Due.is("between by a drawer of the seed " + seed, x.between(0, -seed, seed * 1000 + 1, 50), 50);
            Due.is("between by the split one", x.between(1, -seed, seed * 1000 + 1, 50), 50);
            Due.is("asked after it", x.asked(1), 51);
        }
    }

    private static void longsAndTruths() {
        Checkdraw x = new Checkdraw();
        x.make(0, 1, 1);
        x.below(0, 5, 3);
        Due.is("longs", x.longs(0, 40), 40);
        Due.is("truths", x.truths(0, 30), 30);
        Due.is("longs after them", x.longs(0, 20), 20);
        Due.is("asked after it", x.asked(0), 93);
    }

    private static void shuffle() {
        Checkdraw x = new Checkdraw();
        x.make(0, 1, 1);
        x.make(1, 1, 1);
        Due.fill(x, 0, 4);
        long before = x.check(0);
        Due.is("shuffle of four bytes", x.shuffle(0, 0), 4);
        Due.is("the text stays", x.check(0), before);
        for (int i = 0; i < 3; i++) {
            Due.no("isSameWay amid it", x.isSameWay(0, 1));
            x.between(1, i, 4, 1);
        }
        Due.yes("isSameWay after it", x.isSameWay(0, 1));
        Due.is("alike after it", x.alike(0, 1, 30), 30);
        Due.fill(x, 1, 77);
        Due.is("shuffle of 77 bytes", x.shuffle(1, 0), 77);
        Due.is("asked after it", x.asked(0), 109);
    }

    private static void selectFinds() {
        for (int many : new int[] {1, 2, 3, 17, 120}) {
            Checkdraw x = new Checkdraw();
            x.make(0, many, 1);
            for (int i = 0; i < many; i++) {
                x.add(0, many == 17 ? i % 3 : i * i * 7 + 200 & 255);
            }
            int[] sorted = new int[many];
            for (int i = 0; i < many; i++) {
                sorted[i] = x.byteAt(0, i);
            }
            java.util.Arrays.sort(sorted);
            long before = x.check(0);
            for (int i = 0; i < many; i++) {
                Due.is("select of rank " + i + " of " + many, x.select(0, i, 0), sorted[i]);
            }
            Due.is("the text stays", x.check(0), before);
            Due.is("asked after it", x.asked(0), many);
        }
    }
}
