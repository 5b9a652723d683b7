import java.nio.ByteBuffer;
import java.nio.ByteOrder;

/** Promises 29 to 39: stores. */
final class StoresTest {
    private static final int LEAST = Integer.MIN_VALUE;
    private static final int GREATEST = Integer.MAX_VALUE;

    public static void main(String[] args) {
        put();
        putLimits();
        remove();
        getAndSize();
        rank();
        keyAtAndValueAt();
        part();
        merge();
        mergeLimits();
        sum();
        storeCheck();
        Due.end("StoresTest");
    }

    /** A house whose store 0 has the keys 10, 20, 30, each with a tenth of it as its value, by the drawer 0. */
    private static Checkdraw three() {
        Checkdraw x = new Checkdraw();
        x.make(0, 4, 4);
        x.put(0, 20, 2, 0);
        x.put(0, 30, 3, 0);
        x.put(0, 10, 1, 0);
        return x;
    }

    private static void put() {
        Checkdraw x = three();
        Due.is("asked after three keys", x.asked(0), 3);
        Due.is("put of a key that is there", x.put(0, 20, 255, 0), 2);
        Due.is("put of it again", x.put(0, 20, 0, 0), 255);
        Due.is("asked after it", x.asked(0), 3);
        Due.is("put of a key that comes", x.put(0, LEAST, 0, 0), -1);
        Due.is("put of another one", x.put(0, GREATEST, 0, 0), -1);
        Due.is("put to another store", x.put(3, 20, 9, 0), -1);
        Due.is("asked after it", x.asked(0), 6);
        Due.is("size", x.size(0), 5);
        for (int store : Due.NO_STORE) {
            Due.refused(x, Due.INDEX, "put to no store", () -> x.put(store, 1, -1, 0));
        }
        for (int drawer : Due.NO_TEXT) {
            Due.refused(x, Due.INDEX, "put by no drawer", () -> x.put(0, 1, -1, drawer));
        }
        Due.refused(x, Due.INDEX, "put of a key that is there by a drawer that is not made", () -> x.put(0, 20, 1, 1));
        for (int value : new int[] {-1, 256, LEAST, GREATEST}) {
            Due.refused(x, Due.ARGUMENT, "put of the value " + value, () -> x.put(0, 20, value, 0));
        }
        x.make(1, 0, 0);
        x.make(2, 0, 0);
        x.put(1, 1, 1, 1);
        x.put(1, 2, 2, 1);
        x.put(2, 1, 1, 2);
        x.put(2, 2, 2, 2);
        Due.yes("isSameWay of two that were asked by stores", x.isSameWay(1, 2));
        Due.is("alike of them", x.alike(1, 2, 9), 9);
    }

    private static void putLimits() {
        Checkdraw x = new Checkdraw();
        x.make(0, 4, 4);
        for (int i = 0; i < 40; i++) {
            Due.is("put of the key " + i, x.put(0, i * 7 % 40, i, 0), -1);
        }
        Due.refused(x, Due.STATE, "put of the key 41", () -> x.put(0, 40, 1, 0));
        Due.refused(x, Due.ARGUMENT, "put of the key 41 with a wrong value", () -> x.put(0, 40, 256, 0));
        Due.is("put in a full store", x.put(0, 7, 200, 0), 1);
        Due.is("asked after it", x.asked(0), 40);
        Due.yes("isSound", x.isSound());
        Due.askUpTo(x, 0, 399);
        Due.is("put with the last asking", x.put(1, 5, 5, 0), -1);
        Due.refused(x, Due.STATE, "put after all", () -> x.put(1, 6, 5, 0));
        Due.is("put of a key that is there after all", x.put(1, 5, 6, 0), 5);
        Due.is("put in a full store after all", x.put(0, 7, 1, 0), 200);
    }

    private static void remove() {
        Checkdraw x = three();
        Due.is("remove of the middle one", x.remove(0, 20), 2);
        Due.refused(x, Due.NO_SUCH, "remove of it again", () -> x.remove(0, 20));
        Due.refused(x, Due.NO_SUCH, "remove in an empty store", () -> x.remove(1, 20));
        Due.is("the first key", x.keyAt(0, 0), 10);
        Due.is("the second key", x.keyAt(0, 1), 30);
        Due.is("remove of the last one", x.remove(0, 30), 3);
        Due.is("remove of the first one", x.remove(0, 10), 1);
        Due.is("size after it", x.size(0), 0);
        Due.is("put after it", x.put(0, 10, 7, 0), -1);
        for (int store : Due.NO_STORE) {
            Due.refused(x, Due.INDEX, "remove in no store", () -> x.remove(store, 10));
        }
        Checkdraw y = new Checkdraw();
        y.make(0, 9, 9);
        for (int i = 0; i < 40; i++) {
            y.put(0, i * 11 % 40, i, 0);
        }
        y.put(1, GREATEST, 8, 0);
        Due.is("remove of the greatest int", y.remove(1, GREATEST), 8);
        for (int i = 0; i < 40; i++) {
            Due.is("remove of one of forty", y.remove(0, i * 3 % 40), i * 3 % 40 * 11 % 40);
            Due.is("size after it", y.size(0), 39 - i);
            Due.yes("isSound after it", y.isSound());
        }
    }

    private static void getAndSize() {
        Checkdraw x = three();
        Due.is("get(0, 10)", x.get(0, 10), 1);
        Due.is("get(0, 30)", x.get(0, 30), 3);
        Due.is("size(0)", x.size(0), 3);
        Due.is("size(1)", x.size(1), 0);
        Due.refused(x, Due.NO_SUCH, "get of no key", () -> x.get(0, 11));
        Due.refused(x, Due.NO_SUCH, "get in another store", () -> x.get(1, 10));
        for (int store : Due.NO_STORE) {
            Due.refused(x, Due.INDEX, "get in no store", () -> x.get(store, 10));
            Due.refused(x, Due.INDEX, "size of no store", () -> x.size(store));
        }
    }

    private static void rank() {
        Checkdraw x = three();
        x.put(0, LEAST, 0, 0);
        Due.is("rank of the least int", x.rank(0, LEAST), 0);
        Due.is("rank of 9", x.rank(0, 9), 1);
        Due.is("rank of 10", x.rank(0, 10), 1);
        Due.is("rank of 11", x.rank(0, 11), 2);
        Due.is("rank of 30", x.rank(0, 30), 3);
        Due.is("rank of the greatest int", x.rank(0, GREATEST), 4);
        Due.is("rank in an empty store", x.rank(1, 5), 0);
        for (int store : Due.NO_STORE) {
            Due.refused(x, Due.INDEX, "rank in no store", () -> x.rank(store, 10));
        }
    }

    private static void keyAtAndValueAt() {
        Checkdraw x = three();
        x.put(0, -5, 9, 0);
        int[] keys = {-5, 10, 20, 30};
        int[] values = {9, 1, 2, 3};
        for (int i = 0; i < 4; i++) {
            Due.is("keyAt(0, " + i + ")", x.keyAt(0, i), keys[i]);
            Due.is("valueAt(0, " + i + ")", x.valueAt(0, i), values[i]);
        }
        for (int index : new int[] {-1, 4, LEAST, GREATEST}) {
            Due.refused(x, Due.NO_SUCH, "keyAt(0, " + index + ")", () -> x.keyAt(0, index));
            Due.refused(x, Due.NO_SUCH, "valueAt(0, " + index + ")", () -> x.valueAt(0, index));
        }
        for (int store : Due.NO_STORE) {
            Due.refused(x, Due.INDEX, "keyAt in no store", () -> x.keyAt(store, -1));
            Due.refused(x, Due.INDEX, "valueAt in no store", () -> x.valueAt(store, -1));
        }
    }

    private static void part() {
        Checkdraw x = three();
        Due.is("part behind all", x.part(0, 31, 1), 0);
        Due.is("part amid them", x.part(0, 20, 1), 2);
        Due.is("size of the one", x.size(0), 1);
        Due.is("the first key of the other one", x.keyAt(1, 0), 20);
        Due.is("its second value", x.valueAt(1, 1), 3);
        Due.is("part between two", x.part(1, 21, 2), 1);
        Due.is("the key that stays", x.keyAt(1, 0), 20);
        Due.is("part of all", x.part(2, LEAST, 3), 1);
        Due.is("size of the one", x.size(2), 0);
        Due.is("asked after all of it", x.asked(0), 3);
        Due.is("part of an empty store to itself", x.part(2, 5, 2), 0);
        Due.is("part of an empty store", x.part(2, 5, 2), 0);
        Due.yes("isSound", x.isSound());
        Due.refused(x, Due.UNSUPPORTED, "part to a store with a key", () -> x.part(0, 31, 1));
        Due.refused(x, Due.UNSUPPORTED, "part of none to a store with a key", () -> x.part(2, 31, 1));
        Due.refused(x, Due.UNSUPPORTED, "part to itself", () -> x.part(0, 10, 0));
        for (int store : Due.NO_STORE) {
            Due.refused(x, Due.INDEX, "part of no store", () -> x.part(store, 10, 1));
            Due.refused(x, Due.INDEX, "part to no store", () -> x.part(0, 10, store));
        }
    }

    private static void merge() {
        Checkdraw x = three();
        x.part(0, 20, 1);
        Due.is("merge", x.merge(0, 1), 3);
        Due.is("size of the other one", x.size(1), 0);
        Due.is("the last key", x.keyAt(0, 2), 30);
        Due.is("merge of an empty one", x.merge(0, 1), 3);
        Due.is("merge to an empty one", x.merge(2, 0), 3);
        Due.is("size of the other one", x.size(0), 0);
        Due.is("merge of two empty ones", x.merge(0, 1), 0);
        Due.is("asked after all of it", x.asked(0), 3);
        x.part(2, 20, 0);
        Due.refused(x, Due.UNSUPPORTED, "merge of lesser keys", () -> x.merge(0, 2));
        x.put(3, 10, 1, 0);
        Due.refused(x, Due.UNSUPPORTED, "merge of a key that is there", () -> x.merge(2, 3));
        x.put(3, 40, 1, 0);
        Due.refused(x, Due.UNSUPPORTED, "merge of keys of which some are greater", () -> x.merge(2, 3));
        Due.refused(x, Due.ARGUMENT, "merge with itself", () -> x.merge(0, 0));
        Due.refused(x, Due.ARGUMENT, "merge of an empty one with itself", () -> x.merge(1, 1));
        for (int store : Due.NO_STORE) {
            Due.refused(x, Due.INDEX, "merge to no store", () -> x.merge(store, store));
            Due.refused(x, Due.INDEX, "merge of no store", () -> x.merge(0, store));
        }
        Due.is("merge of the rest", x.merge(2, 0), 3);
        Due.yes("isSound", x.isSound());
    }

    private static void mergeLimits() {
        Checkdraw x = new Checkdraw();
        x.make(0, 4, 4);
        for (int i = 0; i < 20; i++) {
            x.put(0, -i - 1, i, 0);
            x.put(1, i, 100 + i, 0);
        }
        x.put(1, 20, 120, 0);
        Due.refused(x, Due.STATE, "merge, 41 in all", () -> x.merge(0, 1));
        Due.refused(x, Due.UNSUPPORTED, "merge of lesser keys, 41 in all", () -> x.merge(1, 0));
        x.remove(1, 20);
        Due.is("merge, 40 in all", x.merge(0, 1), 40);
        for (int i = 0; i < 40; i++) {
            Due.is("a key after it", x.keyAt(0, i), i - 20);
        }
        Due.yes("isSound", x.isSound());
        Due.is("part of them", x.part(0, 5, 2), 15);
        Due.yes("isSound", x.isSound());
    }

    private static void sum() {
        Checkdraw x = three();
        x.put(0, LEAST, 200, 0);
        x.put(0, GREATEST, 100, 0);
        Due.is("sum of all", x.sum(0, LEAST, GREATEST), 306);
        Due.is("sum from 10 to 30", x.sum(0, 10, 30), 6);
        Due.is("sum from 11 to 29", x.sum(0, 11, 29), 2);
        Due.is("sum of one", x.sum(0, 20, 20), 2);
        Due.is("sum between two", x.sum(0, 21, 29), 0);
        Due.is("sum the other way round", x.sum(0, 30, 10), 0);
        Due.is("sum of the greatest int", x.sum(0, GREATEST, GREATEST), 100);
        Due.is("sum of the least int", x.sum(0, LEAST, LEAST), 200);
        Due.is("sum in an empty store", x.sum(1, LEAST, GREATEST), 0);
        for (int store : Due.NO_STORE) {
            Due.refused(x, Due.INDEX, "sum in no store", () -> x.sum(store, 0, 1));
        }
    }

    private static void storeCheck() {
        Checkdraw x = three();
        x.put(0, -2, 255, 0);
        ByteBuffer row = ByteBuffer.allocate(20).order(ByteOrder.LITTLE_ENDIAN);
        row.putInt(-2).put((byte) 255).putInt(10).put((byte) 1).putInt(20).put((byte) 2).putInt(30).put((byte) 3);
        Due.is("storeCheck", x.storeCheck(0), Due.libraryCheck(row.array()));
        Due.is("storeCheck of an empty store", x.storeCheck(1), 0L);
        x.make(1, 77, 77);
        x.put(1, 30, 3, 1);
        x.put(1, 10, 1, 1);
        x.put(1, -2, 255, 1);
        x.put(1, 20, 2, 1);
        Due.is("storeCheck of the same keys by another drawer", x.storeCheck(1), x.storeCheck(0));
        for (int store : Due.NO_STORE) {
            Due.refused(x, Due.INDEX, "storeCheck of no store", () -> x.storeCheck(store));
        }
    }
}
