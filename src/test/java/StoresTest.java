import java.nio.ByteBuffer;
import java.nio.ByteOrder;

/** Promises 29 to 39: stores. */
final class StoresTest {
    public static void main(String[] args) {
        put();
        remove();
        sortedRow();
        allDrawnAlike();
        partAndMerge();
        storeCheck();
        Due.end("StoresTest");
    }

    /** A house whose store 0 has the keys 10, 20, 30, each with a tenth of it as its value, by the drawer 0. */
    private static Checkdraw three() {
        Checkdraw x = new Checkdraw();
        x.make(0, 4, 4);
        x.put(0, 20, 2, 0);
        x.put(0, 30, 3, 0);
        x.put(0, 10, 1, 0);
        return x;
    }

    private static void put() {
        Checkdraw x = three();
        Due.is("asked after three keys", x.asked(0), 3);
        Due.is("put of a key that is there", x.put(0, 20, 200, 0), 2);
        Due.is("put of it again", x.put(0, 20, 5, 0), 200);
        Due.is("asked after it", x.asked(0), 3);
        Due.is("put of a key that comes", x.put(0, 15, 6, 0), -1);
        Due.is("put to another store", x.put(3, 20, 9, 0), -1);
        Due.is("asked after it", x.asked(0), 5);
        Due.is("size", x.size(0), 4);
        x.make(1, 0, 0);
        x.make(2, 0, 0);
        x.put(1, 1, 1, 1);
        x.put(1, 2, 2, 1);
        x.put(2, 1, 1, 2);
        x.put(2, 2, 2, 2);
        Due.yes("isSameWay of two that were asked by stores", x.isSameWay(1, 2));
        Due.is("alike of them", x.alike(1, 2, 9), 9);
    }

    private static void remove() {
        Checkdraw x = three();
        Due.is("remove of the middle one", x.remove(0, 20), 2);
        Due.is("the first key", x.keyAt(0, 0), 10);
        Due.is("the second key", x.keyAt(0, 1), 30);
        Due.is("remove of the last one", x.remove(0, 30), 3);
        Due.is("remove of the first one", x.remove(0, 10), 1);
        Due.is("size after it", x.size(0), 0);
        Due.is("put after it", x.put(0, 10, 7, 0), -1);
        Checkdraw y = new Checkdraw();
        y.make(0, 9, 9);
        for (int i = 0; i < 40; i++) {
            y.put(0, i * 11 % 40, i, 0);
        }
        for (int i = 0; i < 40; i++) {
            Due.is("remove of one of forty", y.remove(0, i * 3 % 40), i * 3 % 40 * 11 % 40);
            Due.is("size after it", y.size(0), 39 - i);
            Due.yes("isSound after it", y.isSound());
        }
    }

    /** A store answers as its sorted row does, whatever was drawn for it. */
    private static void sortedRow() {
        for (int seed = 0; seed < 30; seed++) {
            Checkdraw x = new Checkdraw();
            x.make(0, seed, seed);
            for (int i = 0; i < 37; i++) {
                x.put(0, i * 14 % 37 * 3 - 50, i * 14 % 37, 0);
            }
            for (int i = 0; i < 37; i++) {
                int key = 3 * i - 50;
                Due.is("keyAt(0, " + i + ")", x.keyAt(0, i), key);
                Due.is("valueAt(0, " + i + ")", x.valueAt(0, i), i);
                Due.is("get(0, " + key + ")", x.get(0, key), i);
                Due.is("rank(0, " + key + ")", x.rank(0, key), i);
                Due.is("rank behind it", x.rank(0, key + 1), i + 1);
                Due.is("sum of it and the next two", x.sum(0, key, key + 6), i < 35 ? 3 * i + 3 : i < 36 ? 71 : 36);
            }
            Due.yes("isSound", x.isSound());
        }
    }

    /** The same, though one int was drawn for all keys, by drawers that came by one way. */
    private static void allDrawnAlike() {
        for (int step : new int[] {1, 39, 3, 17}) {
            Checkdraw x = new Checkdraw();
            for (int i = 0; i < 40; i++) {
                x.make(0, 3, 3);
                Due.is("put of a key that comes", x.put(0, i * step % 40, i * step % 40, 0), -1);
            }
            inOrder(x, 0, 0, 40);
            Due.is("part", x.part(0, 25, 1), 15);
            inOrder(x, 0, 0, 25);
            inOrder(x, 1, 25, 40);
            Due.is("merge", x.merge(0, 1), 40);
            inOrder(x, 0, 0, 40);
            for (int i = 0; i < 20; i++) {
                Due.is("remove of " + i, x.remove(0, i), i);
            }
            inOrder(x, 0, 20, 40);
        }
    }

    /** The keys of a store are all those from one to another one, the latter not counted, each with itself. */
    private static void inOrder(Checkdraw x, int store, int from, int to) {
        Due.is("size", x.size(store), to - from);
        for (int i = from; i < to; i++) {
            Due.is("keyAt(" + store + ", " + (i - from) + ")", x.keyAt(store, i - from), i);
            Due.is("rank(" + store + ", " + i + ")", x.rank(store, i), i - from);
        }
        Due.is("sum of all", x.sum(store, from, to), (to - from) * (from + to - 1) / 2);
        Due.yes("isSound", x.isSound());
    }

    private static void partAndMerge() {
        for (int seed = 0; seed < 30; seed++) {
            Checkdraw x = new Checkdraw();
            x.make(0, seed, seed);
            for (int i = 0; i < 30; i++) {
                x.put(0, i * 11 % 30, i, 0);
            }
            long before = x.storeCheck(0);
            Due.is("part", x.part(0, seed, 1), 30 - seed);
            Due.is("size of the one", x.size(0), seed);
            Due.is("the first key of the other one", x.keyAt(1, 0), seed);
            Due.is("put to it", x.put(1, 40, 40, 0), -1);
            Due.yes("isSound", x.isSound());
            Due.is("merge", x.merge(0, 1), 31);
            Due.is("size of the other one", x.size(1), 0);
            Due.is("remove of what was put", x.remove(0, 40), 40);
            Due.is("storeCheck after it", x.storeCheck(0), before);
            Due.is("merge to an empty store", x.merge(3, 0), 30);
            Due.is("storeCheck of it", x.storeCheck(3), before);
            Due.is("asked after all of it", x.asked(0), 31);
            Due.yes("isSound", x.isSound());
        }
    }

    private static void storeCheck() {
        Checkdraw x = three();
        x.put(0, -2, 255, 0);
        ByteBuffer row = ByteBuffer.allocate(20).order(ByteOrder.LITTLE_ENDIAN);
        row.putInt(-2).put((byte) 255).putInt(10).put((byte) 1).putInt(20).put((byte) 2).putInt(30).put((byte) 3);
        Due.is("storeCheck", x.storeCheck(0), Due.libraryCheck(row.array()));
        x.make(1, 77, 77);
        x.put(1, 30, 3, 1);
        x.put(1, 10, 1, 1);
        x.put(1, -2, 255, 1);
        x.put(1, 20, 2, 1);
        Due.is("storeCheck of the same keys by another drawer", x.storeCheck(1), x.storeCheck(0));
    }
}
