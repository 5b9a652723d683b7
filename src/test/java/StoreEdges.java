import java.nio.ByteBuffer;
import java.nio.ByteOrder;

/** The boundaries of promises 29 to 39: stores. */
final class StoreEdges {
    private static final String NO_STORE = "Throws `IndexOutOfBoundsException` if there is no such store";
    private static final String NO_KEY = "Throws `NoSuchElementException` if there is no such key";
    private static final String NOT_SO_MANY = "Throws `NoSuchElementException` if there are not so many";
    private static final String THERE_OR_NOT = "`key`: the key, there or not";

    static void test() {
        put();
        putFull();
        putAsks();
        remove();
        get();
        size();
        rank();
        keyAt();
        valueAt();
        part();
        partOccupied();
        merge();
        mergeOrder();
        mergeFull();
        sum();
        storeCheck();
    }

    /** A store 0 of the keys 10, 20 and so on, so many; the drawer 0 was asked for each of them. */
    private static Edge.Scene of(int many) {
        return Edge.drawer(0, 0).and(Edge.keys(0, many, 0));
    }

    /** A store 0 of the keys 10, 20, 30, and one of the least and one of the greatest int. */
    private static Edge.Scene ends() {
        return of(3).and(x -> x.put(0, Edge.LEAST, 100, 0)).and(x -> x.put(0, Edge.GREATEST, 200, 0));
    }

    /** Each store has the key 10. */
    private static Edge.Scene everyStore() {
        return Edge.everyDrawer(3).and(Edge.keys(0, 1, 0)).and(Edge.keys(1, 1, 0)).and(Edge.keys(2, 1, 0)).and(Edge.keys(3, 1, 0));
    }

    private static void put() {
        Document.says(29, "Throws `IndexOutOfBoundsException` if there is no such store or drawer");
        Edge.range(everyStore(), Edge.INDEX, 0, 3, "put of a key that comes to the store", (x, n) -> x.put(n, 5, 1, 0));
        Edge.range(everyStore(), Edge.INDEX, 0, 3, "put of a key that is there to the store", (x, n) -> x.put(n, 10, 1, 0));
        Edge.range(everyStore(), Edge.INDEX, 0, 5, "put of a key that comes by the drawer", (x, n) -> x.put(0, 5, 1, n));
        Edge.range(everyStore(), Edge.INDEX, 0, 5, "put of a key that is there by the drawer", (x, n) -> x.put(0, 10, 1, n));
        Edge.refuses(of(3), Edge.INDEX, "put of a key that comes by a drawer that is not there", x -> x.put(0, 5, 1, 1));
        Edge.refuses(of(3), Edge.INDEX, "put of a key that is there by a drawer that is not there", x -> x.put(0, 10, 1, 1));
        Document.says(29, "`value`: the value, 0 to 255", "Throws `IllegalArgumentException` if the value is out of range");
        Edge.range(of(3), Edge.ARGUMENT, 0, 255, "put under a key that comes of the value", (x, n) -> x.put(0, 5, n, 0));
        Edge.range(of(3), Edge.ARGUMENT, 0, 255, "put under a key that is there of the value", (x, n) -> x.put(0, 10, n, 0));
        Document.says(29, "Returns the value that was there, -1 if the key comes.");
        for (int value : new int[] {0, 1, 254, 255}) {
            Edge.answers(of(3), "put of " + value + " under a key that comes", x -> x.put(0, 5, value, 0) + " " + x.get(0, 5) + " " + x.asked(0), "-1 " + value + " 4");
            Edge.answers(of(3), "put of " + value + " under a key that is there", x -> x.put(0, 10, value, 0) + " " + x.get(0, 10) + " " + x.asked(0), "1 " + value + " 3");
            Edge.answers(of(3).and(x -> x.put(0, 10, value, 0)), "put in place of " + value, x -> x.put(0, 10, 7, 0) + " " + x.asked(0), value + " 3");
        }
        Document.says(Document.TERMS, "each with at most 40 keys, any ints");
        for (int key : new int[] {Edge.LEAST, Edge.LEAST + 1, -1, 0, 1, Edge.GREATEST - 1, Edge.GREATEST}) {
            Edge.answers(of(3), "put of the key " + key, x -> x.put(0, key, 9, 0) + " " + x.put(0, key, 8, 0) + " " + x.get(0, key) + " " + x.size(0), "-1 9 8 4");
        }
    }

    private static void putFull() {
        Document.says(29, "Throws `IllegalStateException` if a key would come, and there are 40, or the drawer was asked 400 times then");
        Edge.answers(of(0), "put to an empty store", x -> x.put(0, 5, 1, 0) + " " + x.size(0), "-1 1");
        Edge.answers(of(38), "put to 38 keys", x -> x.put(0, 5, 1, 0) + " " + x.size(0), "-1 39");
        for (int key : new int[] {Edge.LEAST, 5, 205, 400, Edge.GREATEST}) {
            Edge.answers(of(39), "put of " + key + " to 39 keys", x -> x.put(0, key, 1, 0) + " " + x.size(0) + " " + x.isSound(), "-1 40 true");
        }
        for (int key : new int[] {Edge.LEAST, 5, 205, 410, Edge.GREATEST}) {
            Edge.refuses(of(40), Edge.STATE, "put of " + key + " to a full store", x -> x.put(0, key, 1, 0));
        }
        for (int key : new int[] {10, 200, 400}) {
            Edge.answers(of(40), "put of " + key + ", that is there, to a full store", x -> x.put(0, key, 255, 0) + " " + x.size(0) + " " + x.asked(0), key / 10 + " 40 40");
        }
        Edge.answers(of(40), "put to another store", x -> x.put(1, 5, 1, 0) + " " + x.size(1), "-1 1");
        Edge.answers(of(40).and(x -> x.remove(0, 200)), "put to a store that was full", x -> x.put(0, 5, 1, 0) + " " + x.size(0), "-1 40");
    }

    /** The same sentence, of the drawer. */
    private static void putAsks() {
        Edge.Scene last = of(3).and(x -> Due.askUpTo(x, 0, 399));
        Edge.Scene over = of(3).and(x -> Due.askUpTo(x, 0, 400));
        Edge.answers(last, "put of a key that comes at 399", x -> x.put(0, 5, 1, 0) + " " + x.asked(0), "-1 400");
        Edge.answers(last, "put of a key that is there at 399", x -> x.put(0, 10, 9, 0) + " " + x.asked(0), "1 399");
        Edge.refuses(over, Edge.STATE, "put of a key that comes at 400", x -> x.put(0, 5, 1, 0));
        Edge.refuses(over, Edge.STATE, "put to an empty store at 400", x -> x.put(1, 5, 1, 0));
        Edge.answers(over, "put of a key that is there at 400", x -> x.put(0, 10, 9, 0) + " " + x.get(0, 10) + " " + x.asked(0), "1 9 400");
        Edge.Scene both = of(40).and(x -> Due.askUpTo(x, 0, 400));
        Edge.refuses(both, Edge.STATE, "put of a key that comes to a full store at 400", x -> x.put(0, 5, 1, 0));
        Edge.answers(both, "put of a key that is there to a full store at 400", x -> x.put(0, 10, 9, 0) + " " + x.get(0, 10) + " " + x.asked(0), "1 9 400");
        Edge.answers(over.and(Edge.drawer(1, 0)), "put by another drawer", x -> x.put(0, 5, 1, 1) + " " + x.asked(1), "-1 1");
        Document.saysFirst(29);
        Edge.refuses(both, Edge.INDEX, "put of 256 to no store", x -> x.put(4, 5, 256, 0));
        Edge.refuses(both, Edge.INDEX, "put to no store at 400", x -> x.put(-1, 5, 1, 0));
        Edge.refuses(both, Edge.INDEX, "put of -1 by one that is not there", x -> x.put(0, 5, -1, 1));
        Edge.refuses(both, Edge.INDEX, "put to a full store by one that is not there", x -> x.put(0, 5, 1, 1));
        Edge.refuses(both, Edge.INDEX, "put to a full store by no drawer", x -> x.put(0, 5, 1, 6));
        Edge.refuses(of(40), Edge.ARGUMENT, "put of 256 to a full store", x -> x.put(0, 5, 256, 0));
        Edge.refuses(of(40), Edge.ARGUMENT, "put of -1 to a full store", x -> x.put(0, 5, -1, 0));
        Edge.refuses(over, Edge.ARGUMENT, "put of 256 at 400", x -> x.put(0, 5, 256, 0));
        Edge.refuses(over, Edge.ARGUMENT, "put of -1 at 400", x -> x.put(0, 5, -1, 0));
    }

    private static void remove() {
        Document.says(30, NO_STORE);
        Edge.range(everyStore(), Edge.INDEX, 0, 3, "remove in the store", (x, n) -> x.remove(n, 10));
        Document.says(30, NO_KEY);
        for (int key : new int[] {Edge.LEAST, -10, 0, 9, 11, 29, 31, Edge.GREATEST}) {
            Edge.refuses(of(3), Edge.NO_SUCH, "remove of " + key, x -> x.remove(0, key));
            Edge.refuses(of(3), Edge.NO_SUCH, "remove in an empty store of " + key, x -> x.remove(1, key));
            Edge.refuses(of(40), Edge.NO_SUCH, "remove in a full store of " + key, x -> x.remove(0, key));
        }
        Edge.refuses(of(3), Edge.NO_SUCH, "remove of a key of another store", x -> x.remove(1, 10));
        Edge.refuses(of(3).and(x -> x.remove(0, 20)), Edge.NO_SUCH, "remove of what was removed", x -> x.remove(0, 20));
        Edge.refuses(of(1).and(x -> x.remove(0, 10)), Edge.NO_SUCH, "remove of what was removed, as the only one", x -> x.remove(0, 10));
        Edge.answers(of(1), "remove of the only one", x -> x.remove(0, 10) + " " + x.size(0) + " " + x.asked(0), "1 0 1");
        for (int key : new int[] {10, 200, 400}) {
            Edge.answers(of(40), "remove in a full store of " + key, x -> x.remove(0, key) + " " + x.size(0) + " " + x.asked(0) + " " + x.isSound(), key / 10 + " 39 40 true");
        }
        Edge.answers(ends(), "remove of the least int", x -> x.remove(0, Edge.LEAST) + " " + x.keyAt(0, 0), "100 10");
        Edge.answers(ends(), "remove of the greatest int", x -> x.remove(0, Edge.GREATEST) + " " + x.keyAt(0, 3), "200 30");
        Document.saysFirst(30);
        Edge.refuses(of(3), Edge.INDEX, "remove in no store of no key", x -> x.remove(4, 5));
    }

    private static void get() {
        Document.says(31, NO_STORE);
        Edge.range(everyStore(), Edge.INDEX, 0, 3, "get in the store", (x, n) -> x.get(n, 10));
        Document.says(31, NO_KEY);
        for (int key : new int[] {Edge.LEAST, -10, 0, 9, 11, 29, 31, Edge.GREATEST}) {
            Edge.refuses(of(3), Edge.NO_SUCH, "get of " + key, x -> x.get(0, key));
            Edge.refuses(of(3), Edge.NO_SUCH, "get in an empty store of " + key, x -> x.get(1, key));
            Edge.refuses(of(40), Edge.NO_SUCH, "get in a full store of " + key, x -> x.get(0, key));
        }
        Edge.refuses(of(3).and(x -> x.remove(0, 20)), Edge.NO_SUCH, "get of what was removed", x -> x.get(0, 20));
        Edge.refuses(of(3), Edge.NO_SUCH, "get of a key of another store", x -> x.get(1, 10));
        Edge.answers(of(40), "get of the first and the last key of a full store", x -> x.get(0, 10) + " " + x.get(0, 400), "1 40");
        Edge.answers(ends(), "get of the least and the greatest int", x -> x.get(0, Edge.LEAST) + " " + x.get(0, Edge.GREATEST), "100 200");
        Document.saysFirst(31);
        Edge.refuses(of(3), Edge.INDEX, "get in no store of no key", x -> x.get(4, 5));
    }

    private static void size() {
        Document.says(32, NO_STORE);
        Edge.range(everyStore(), Edge.INDEX, 0, 3, "size of the store", (x, n) -> x.size(n));
        for (int many : new int[] {0, 1, 39, 40}) {
            Edge.answers(of(many), "size of " + many + " keys", x -> x.size(0) + " " + x.size(1), many + " 0");
        }
    }

    private static void rank() {
        Document.says(33, NO_STORE);
        Edge.range(everyStore(), Edge.INDEX, 0, 3, "rank in the store", (x, n) -> x.rank(n, 10));
        Document.says(33, THERE_OR_NOT);
        int[][] ranks = {{Edge.LEAST, 0}, {9, 0}, {10, 0}, {11, 1}, {19, 1}, {20, 1}, {21, 2}, {30, 2}, {31, 3}, {Edge.GREATEST, 3}};
        for (int[] r : ranks) {
            Edge.answers(of(3), "rank of " + r[0], x -> x.rank(0, r[0]), r[1]);
            Edge.answers(of(3), "rank in an empty store of " + r[0], x -> x.rank(1, r[0]), 0);
        }
        int[][] full = {{Edge.LEAST, 0}, {10, 0}, {11, 1}, {400, 39}, {401, 40}, {Edge.GREATEST, 40}};
        for (int[] r : full) {
            Edge.answers(of(40), "rank in a full store of " + r[0], x -> x.rank(0, r[0]), r[1]);
        }
        int[][] ends = {{Edge.LEAST, 0}, {Edge.LEAST + 1, 1}, {10, 1}, {Edge.GREATEST - 1, 4}, {Edge.GREATEST, 4}};
        for (int[] r : ends) {
            Edge.answers(ends(), "rank amid the least and the greatest int of " + r[0], x -> x.rank(0, r[0]), r[1]);
        }
    }

    private static void keyAt() {
        Document.says(34, NO_STORE);
        Edge.range(everyStore(), Edge.INDEX, 0, 3, "keyAt in the store", (x, n) -> x.keyAt(n, 0));
        Document.says(34, "`index`: its rank, from 0", NOT_SO_MANY);
        for (int many : new int[] {1, 3, 39, 40}) {
            Edge.range(of(many), Edge.NO_SUCH, 0, many - 1, "keyAt in " + many + " keys, the rank", (x, n) -> x.keyAt(0, n));
            Edge.answers(of(many), "the first and the last of " + many + " keys", x -> x.keyAt(0, 0) + " " + x.keyAt(0, many - 1), "10 " + 10 * many);
        }
        for (int index : new int[] {-1, 0, 1, 39, 40, Edge.LEAST, Edge.GREATEST}) {
            Edge.refuses(of(3), Edge.NO_SUCH, "keyAt in an empty store, the rank " + index, x -> x.keyAt(1, index));
        }
        Edge.answers(ends(), "the least and the greatest int by their ranks", x -> x.keyAt(0, 0) + " " + x.keyAt(0, 4), Edge.LEAST + " " + Edge.GREATEST);
        Document.saysFirst(34);
        Edge.refuses(of(3), Edge.INDEX, "keyAt in no store, the rank -1", x -> x.keyAt(4, -1));
        Edge.refuses(of(3), Edge.INDEX, "keyAt in no store, the rank 40", x -> x.keyAt(-1, 40));
    }

    private static void valueAt() {
        Document.says(35, NO_STORE);
        Edge.range(everyStore(), Edge.INDEX, 0, 3, "valueAt in the store", (x, n) -> x.valueAt(n, 0));
        Document.says(35, "`index`: the rank, from 0", NOT_SO_MANY);
        for (int many : new int[] {1, 3, 39, 40}) {
            Edge.range(of(many), Edge.NO_SUCH, 0, many - 1, "valueAt in " + many + " keys, the rank", (x, n) -> x.valueAt(0, n));
            Edge.answers(of(many), "the first and the last value of " + many + " keys", x -> x.valueAt(0, 0) + " " + x.valueAt(0, many - 1), "1 " + many);
        }
        for (int index : new int[] {-1, 0, 1, 39, 40, Edge.LEAST, Edge.GREATEST}) {
            Edge.refuses(of(3), Edge.NO_SUCH, "valueAt in an empty store, the rank " + index, x -> x.valueAt(1, index));
        }
        Edge.answers(ends(), "the values of the least and the greatest int by their ranks", x -> x.valueAt(0, 0) + " " + x.valueAt(0, 4), "100 200");
        Document.saysFirst(35);
        Edge.refuses(of(3), Edge.INDEX, "valueAt in no store, the rank -1", x -> x.valueAt(4, -1));
        Edge.refuses(of(3), Edge.INDEX, "valueAt in no store, the rank 40", x -> x.valueAt(-1, 40));
    }

    /** Parts the store 0 to the store 1, and tells what each of them has, and how often the drawer was asked. */
    private static Object parted(Checkdraw x, int key) {
        return x.part(0, key, 1) + " of " + (x.size(0) + x.size(1)) + ", asked " + x.asked(0) + ", " + x.isSound();
    }

    private static void part() {
        Document.says(36, NO_STORE + ", for either");
        Edge.range(everyStore().and(x -> x.remove(2, 10)), Edge.INDEX, 0, 3, "part of the store", (x, n) -> x.part(n, 10, 2));
        Edge.range(Edge.NEW, Edge.INDEX, 0, 3, "part to the store", (x, n) -> x.part(0, 10, n));
        Document.says(36, THERE_OR_NOT, "its keys from one on go to another one, which is empty");
        int[][] threes = {{Edge.LEAST, 3}, {9, 3}, {10, 3}, {11, 2}, {20, 2}, {21, 1}, {30, 1}, {31, 0}, {Edge.GREATEST, 0}};
        for (int[] t : threes) {
            Edge.answers(of(3), "part of three keys from " + t[0], x -> parted(x, t[0]), t[1] + " of 3, asked 3, true");
            Edge.answers(of(3), "the keys after it, joined again", x -> x.part(0, t[0], 1) + x.merge(0, 1), t[1] + 3);
            Edge.answers(of(0), "part of an empty store from " + t[0], x -> parted(x, t[0]), "0 of 0, asked 0, true");
            Edge.answers(of(0), "part of an empty store to itself from " + t[0], x -> x.part(0, t[0], 0) + " " + x.size(0), "0 0");
        }
        int[][] forties = {{Edge.LEAST, 40}, {10, 40}, {11, 39}, {400, 1}, {401, 0}, {Edge.GREATEST, 0}};
        for (int[] f : forties) {
            Edge.answers(of(40), "part of a full store from " + f[0], x -> parted(x, f[0]), f[1] + " of 40, asked 40, true");
        }
        int[][] ends = {{Edge.LEAST, 5}, {Edge.LEAST + 1, 4}, {Edge.GREATEST - 1, 1}, {Edge.GREATEST, 1}};
        for (int[] e : ends) {
            Edge.answers(ends(), "part amid the least and the greatest int from " + e[0], x -> parted(x, e[0]), e[1] + " of 5, asked 5, true");
        }
        Edge.answers(of(3), "the keys of either store", x -> x.part(0, 20, 1) + " " + x.keyAt(0, 0) + " " + x.keyAt(1, 0) + " " + x.keyAt(1, 1) + " " + x.valueAt(1, 0), "2 10 20 30 2");
    }

    private static void partOccupied() {
        Document.says(36, "Throws `UnsupportedOperationException` if the other one has a key");
        Edge.Scene occupied = of(3).and(Edge.keys(1, 1, 0));
        for (int key : new int[] {Edge.LEAST, 10, 20, 31, Edge.GREATEST}) {
            Edge.refuses(occupied, Edge.UNSUPPORTED, "part from " + key + " to a store with one key", x -> x.part(0, key, 1));
            Edge.refuses(occupied, Edge.UNSUPPORTED, "part of an empty store from " + key, x -> x.part(2, key, 1));
            Edge.refuses(of(3), Edge.UNSUPPORTED, "part to itself from " + key, x -> x.part(0, key, 0));
            Edge.refuses(of(1), Edge.UNSUPPORTED, "part of one key to itself from " + key, x -> x.part(0, key, 0));
            Edge.refuses(of(40), Edge.UNSUPPORTED, "part to a full store from " + key, x -> x.part(1, key, 0));
        }
        Edge.answers(occupied.and(x -> x.remove(1, 10)), "part to a store that has no key any more", x -> x.part(0, 20, 1), 2);
        Document.saysFirst(36);
        Edge.refuses(occupied, Edge.INDEX, "part of no store to one with a key", x -> x.part(4, 20, 1));
        Edge.refuses(occupied, Edge.INDEX, "part of a store below 0 to one with a key", x -> x.part(-1, 20, 1));
    }

    private static void merge() {
        Document.says(37, NO_STORE + ", for either");
        Edge.range(Edge.NEW, Edge.INDEX, 0, 3, "merge to the store", (x, n) -> x.merge(n, n == 0 ? 1 : 0));
        Edge.range(Edge.NEW, Edge.INDEX, 0, 3, "merge of the store", (x, n) -> x.merge(n == 0 ? 1 : 0, n));
        Document.says(37, "Throws `IllegalArgumentException` if both are the same");
        for (int store = 0; store < 4; store++) {
            int s = store;
            Edge.refuses(Edge.drawer(0, 0).and(Edge.keys(s, 3, 0)), Edge.ARGUMENT, "merge of the store " + s + " with itself", x -> x.merge(s, s));
            Edge.refuses(Edge.NEW, Edge.ARGUMENT, "merge of the empty store " + s + " with itself", x -> x.merge(s, s));
        }
        Document.says(37, "`other`: the other one, which is empty then", "Returns how many keys the store has then.");
        Edge.answers(of(0), "merge of two empty stores", x -> x.merge(0, 1) + " " + x.size(0) + " " + x.size(1), "0 0 0");
        Edge.answers(of(3), "merge of an empty store to three keys", x -> x.merge(0, 1) + " " + x.size(0) + " " + x.size(1), "3 3 0");
        Edge.answers(of(3), "merge of three keys to an empty store", x -> x.merge(1, 0) + " " + x.size(1) + " " + x.size(0), "3 3 0");
        Edge.answers(of(3), "the keys after it", x -> x.merge(1, 0) + " " + x.keyAt(1, 0) + " " + x.keyAt(1, 2) + " " + x.asked(0), "3 10 30 3");
    }

    /** The store 0 has the keys 10, 20, 30, the store 1 those that are told. */
    private static Edge.Scene against(int... keys) {
        return of(3).and(x -> {
            for (int key : keys) {
                x.put(1, key, 77, 0);
            }
        });
    }

    private static void mergeOrder() {
        Document.says(37, "Throws `UnsupportedOperationException` if both have keys, and those of the other one are not all greater");
        Edge.answers(against(31), "merge of 31 behind 30", x -> x.merge(0, 1) + " " + x.keyAt(0, 3) + " " + x.size(1) + " " + x.isSound(), "4 31 0 true");
        Edge.answers(against(Edge.GREATEST), "merge of the greatest int behind 30", x -> x.merge(0, 1) + " " + x.keyAt(0, 3), "4 " + Edge.GREATEST);
        Edge.answers(against(9), "merge the other way round, of 10 behind 9", x -> x.merge(1, 0) + " " + x.keyAt(1, 0) + " " + x.size(0), "4 9 0");
        Edge.answers(against(Edge.LEAST), "merge the other way round, behind the least int", x -> x.merge(1, 0) + " " + x.keyAt(1, 0), "4 " + Edge.LEAST);
        Edge.refuses(against(30), Edge.UNSUPPORTED, "merge of 30 behind 30", x -> x.merge(0, 1));
        Edge.refuses(against(29), Edge.UNSUPPORTED, "merge of 29 behind 30", x -> x.merge(0, 1));
        Edge.refuses(against(9), Edge.UNSUPPORTED, "merge of 9 behind 30", x -> x.merge(0, 1));
        Edge.refuses(against(Edge.LEAST), Edge.UNSUPPORTED, "merge of the least int behind 30", x -> x.merge(0, 1));
        Edge.refuses(against(30, 31, 32), Edge.UNSUPPORTED, "merge of 30 and greater ones behind 30", x -> x.merge(0, 1));
        Edge.refuses(against(5, 31, 32), Edge.UNSUPPORTED, "merge of 5 and greater ones behind 30", x -> x.merge(0, 1));
        Edge.refuses(against(10), Edge.UNSUPPORTED, "merge the other way round, of 10 behind 10", x -> x.merge(1, 0));
        Edge.refuses(against(31), Edge.UNSUPPORTED, "merge the other way round, of lesser ones behind 31", x -> x.merge(1, 0));
        Edge.Scene ends = Edge.drawer(0, 0).and(x -> x.put(0, Edge.GREATEST, 1, 0)).and(x -> x.put(1, Edge.LEAST, 1, 0));
        Edge.refuses(ends, Edge.UNSUPPORTED, "merge of the least int behind the greatest one", x -> x.merge(0, 1));
        Edge.answers(ends, "merge of the greatest int behind the least one", x -> x.merge(1, 0) + " " + x.keyAt(1, 0), "2 " + Edge.LEAST);
    }

    /** The store 1 has so many keys, all greater than 400, beside what the store 0 has. */
    private static Edge.Scene behind(int own, int others) {
        return of(own).and(x -> {
            for (int i = 0; i < others; i++) {
                x.put(1, 401 + i, 200, 0);
            }
        });
    }

    private static void mergeFull() {
        Document.says(37, "Throws `IllegalStateException` if it would have more than 40");
        int[][] fits = {{40, 0}, {0, 40}, {39, 1}, {1, 39}, {20, 20}};
        for (int[] f : fits) {
            Edge.answers(behind(f[0], f[1]), "merge of " + f[0] + " and " + f[1] + " keys", x -> x.merge(0, 1) + " " + x.size(0) + " " + x.size(1) + " " + x.isSound(), "40 40 0 true");
        }
        int[][] many = {{40, 1}, {1, 40}, {39, 2}, {20, 21}, {21, 20}, {40, 40}};
        for (int[] m : many) {
            Edge.refuses(behind(m[0], m[1]), Edge.STATE, "merge of " + m[0] + " and " + m[1] + " keys", x -> x.merge(0, 1));
        }
        Document.saysFirst(37);
        Edge.refuses(behind(40, 1), Edge.INDEX, "merge of no store with itself", x -> x.merge(4, 4));
        Edge.refuses(behind(40, 1), Edge.INDEX, "merge of a store below 0 with itself", x -> x.merge(-1, -1));
        Edge.refuses(behind(40, 1), Edge.ARGUMENT, "merge of a full store with itself", x -> x.merge(0, 0));
        Edge.refuses(behind(40, 1), Edge.ARGUMENT, "merge of one key with itself", x -> x.merge(1, 1));
        Edge.refuses(behind(40, 1), Edge.UNSUPPORTED, "merge of 41 keys that are not greater", x -> x.merge(1, 0));
        Edge.refuses(behind(40, 40), Edge.UNSUPPORTED, "merge of 80 keys that are not greater", x -> x.merge(1, 0));
    }

    private static void sum() {
        Document.says(38, NO_STORE);
        Edge.range(everyStore(), Edge.INDEX, 0, 3, "sum in the store", (x, n) -> x.sum(n, 0, 100));
        Document.says(38, "`from`: the least key", "`to`: the greatest key", "Returns the sum of those of the keys from the one to the other one, both counted.");
        int[][] sums = {{10, 30, 6}, {11, 30, 5}, {10, 29, 3}, {11, 29, 2}, {9, 31, 6}, {20, 20, 2}, {21, 29, 0}, {30, 10, 0}, {30, 29, 0}, {20, 19, 0}, {31, 100, 0},
            {Edge.LEAST, 9, 100}, {Edge.LEAST, 10, 101}, {Edge.LEAST, Edge.LEAST, 100}, {Edge.LEAST + 1, 9, 0}, {30, Edge.GREATEST - 1, 3}, {30, Edge.GREATEST, 203},
            {Edge.GREATEST, Edge.GREATEST, 200}, {Edge.LEAST, Edge.GREATEST, 306}, {Edge.GREATEST, Edge.LEAST, 0}, {Edge.LEAST + 1, Edge.GREATEST - 1, 6}};
        for (int[] s : sums) {
            Edge.answers(ends(), "sum from " + s[0] + " to " + s[1], x -> x.sum(0, s[0], s[1]), s[2]);
            Edge.answers(ends(), "sum in an empty store from " + s[0] + " to " + s[1], x -> x.sum(1, s[0], s[1]), 0);
        }
        Edge.answers(of(40), "sum in a full store", x -> x.sum(0, 10, 400), 820);
        Edge.answers(of(40), "sum in a full store but for its ends", x -> x.sum(0, 11, 399), 779);
        Edge.answers(of(40).and(x -> {
            for (int key = 10; key <= 400; key += 10) {
                x.put(0, key, 255, 0);
            }
        }), "sum of the greatest values", x -> x.sum(0, Edge.LEAST, Edge.GREATEST), 10200);
    }

    private static void storeCheck() {
        Document.says(39, NO_STORE);
        Edge.range(everyStore(), Edge.INDEX, 0, 3, "storeCheck of the store", (x, n) -> x.storeCheck(n));
        Document.says(39, "Returns the check, 0 to 4294967295.");
        Document.says(Document.TERMS, "the four bytes of the key, the lowest one first, and the value.");
        Edge.answers(of(0), "storeCheck of an empty store", x -> x.storeCheck(0), 0L);
        Edge.answers(of(1).and(x -> x.remove(0, 10)), "storeCheck of a store that is empty again", x -> x.storeCheck(0), 0L);
        ByteBuffer ends = ByteBuffer.allocate(25).order(ByteOrder.LITTLE_ENDIAN);
        ends.putInt(Edge.LEAST).put((byte) 100).putInt(10).put((byte) 1).putInt(20).put((byte) 2).putInt(30).put((byte) 3).putInt(Edge.GREATEST).put((byte) 200);
        Edge.answers(ends(), "storeCheck with the least and the greatest int", x -> x.storeCheck(0), Due.libraryCheck(ends.array()));
        ByteBuffer full = ByteBuffer.allocate(200).order(ByteOrder.LITTLE_ENDIAN);
        for (int i = 1; i <= 40; i++) {
            full.putInt(10 * i).put((byte) i);
        }
        Edge.answers(of(40), "storeCheck of a full store", x -> x.storeCheck(0), Due.libraryCheck(full.array()));
        // The four bytes of these keys, and the values, make the checks 0 and 4294967295.
        Edge.answers(keyOfCheck(0L), "storeCheck of a key that makes it 0", x -> x.storeCheck(0), 0L);
        Edge.answers(keyOfCheck(4294967295L), "storeCheck of a key that makes it the greatest one", x -> x.storeCheck(0), 4294967295L);
        Edge.answers(keyOfCheck(2147483648L), "storeCheck of a key that makes it above the greatest int", x -> x.storeCheck(0), 2147483648L);
    }

    /** A store 0 with the one key that, with the value 9, has the check; the text 0 tells the key. */
    private static Edge.Scene keyOfCheck(long check) {
        return Edge.drawer(0, 0).and(x -> x.addMore(0, 5, 0, 0, 0, 0, 9, 0, 0, 0)).and(x -> x.put(0, x.lay(0, 0, (int) check), 9, 0));
    }
}
