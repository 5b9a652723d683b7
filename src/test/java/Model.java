import java.util.ArrayList;
import java.util.List;
import java.util.Map;
import java.util.NoSuchElementException;
import java.util.TreeMap;

/** The document in another way: the library's rows, its CRC32C, and ways as rows of words. It draws nothing. */
final class Model {
    private static final int POLYNOMIAL = 0x82F63B78;

    private static final class Way {
        private final String seed;
        private final List<String> row = new ArrayList<>();

        Way(String seed) {
            this.seed = seed;
        }

        Way twin() {
            Way twin = new Way(seed);
            twin.row.addAll(row);
            return twin;
        }

        boolean hasSplitting() {
            return row.contains("split") || row.contains("born");
        }

        boolean isLike(Way other) {
            return seed.equals(other.seed) && row.equals(other.row);
        }
    }

    private final List<List<Integer>> texts = new ArrayList<>();
    private final Way[] ways = new Way[6];
    private final List<TreeMap<Integer, Integer>> stores = new ArrayList<>();

    Model() {
        for (int i = 0; i < 6; i++) {
            texts.add(new ArrayList<>());
        }
        for (int i = 0; i < 4; i++) {
            stores.add(new TreeMap<>());
        }
    }

    private List<Integer> text(int text) {
        if (text < 0 || text > 5) {
            throw new IndexOutOfBoundsException();
        }
        return texts.get(text);
    }

    private void seat(int drawer) {
        if (drawer < 0 || drawer > 5) {
            throw new IndexOutOfBoundsException();
        }
    }

    private Way way(int drawer) {
        seat(drawer);
        if (ways[drawer] == null) {
            throw new IndexOutOfBoundsException();
        }
        return ways[drawer];
    }

    private TreeMap<Integer, Integer> store(int store) {
        if (store < 0 || store > 3) {
            throw new IndexOutOfBoundsException();
        }
        return stores.get(store);
    }

    private static void argument(boolean good) {
        if (!good) {
            throw new IllegalArgumentException();
        }
    }

    private static void state(boolean good) {
        if (!good) {
            throw new IllegalStateException();
        }
    }

    private static void supported(boolean good) {
        if (!good) {
            throw new UnsupportedOperationException();
        }
    }

    private static void such(boolean good) {
        if (!good) {
            throw new NoSuchElementException();
        }
    }

    int add(int text, int sign) {
        return addMore(text, 1, sign, 0, 0, 0, 0, 0, 0, 0);
    }

    int addMore(int text, int many, int... signs) {
        List<Integer> row = text(text);
        argument(many >= 1 && many <= 8);
        for (int i = 0; i < many; i++) {
            argument(signs[i] >= 0 && signs[i] <= 255);
        }
        state(row.size() + many <= 120);
        for (int i = 0; i < many; i++) {
            row.add(signs[i]);
        }
        return row.size();
    }

    int cut(int text, int length) {
        List<Integer> row = text(text);
        argument(length >= 0 && length <= row.size());
        int gone = row.size() - length;
        row.subList(length, row.size()).clear();
        return gone;
    }

    int length(int text) {
        return text(text).size();
    }

    int byteAt(int text, int place) {
        List<Integer> row = text(text);
        such(place >= 0 && place < row.size());
        return row.get(place);
    }

    int copy(int text, int to) {
        return become(to, new ArrayList<>(text(text)));
    }

    private int become(int text, List<Integer> row) {
        List<Integer> changed = text(text);
        changed.clear();
        changed.addAll(row);
        return row.size();
    }

    int join(int first, int second, int to) {
        List<Integer> row = new ArrayList<>(text(first));
        row.addAll(text(second));
        text(to);
        state(row.size() <= 120);
        return become(to, row);
    }

    int flip(int text, int bit) {
        List<Integer> row = text(text);
        such(bit >= 0 && bit < 8 * row.size());
        row.set(bit / 8, row.get(bit / 8) ^ 1 << bit % 8);
        return row.get(bit / 8);
    }

    private static long checkOf(List<Integer> row) {
        byte[] bytes = new byte[row.size()];
        for (int i = 0; i < bytes.length; i++) {
            bytes[i] = (byte) (int) row.get(i);
        }
        return Due.libraryCheck(bytes);
    }

    long check(int text) {
        return checkOf(text(text));
    }

    /** Over so many bytes, one by one: slow, and so only asked for few of them. */
    int joined(int first, int second, int many) {
        argument(many >= 0 && many <= 1000000);
        int left = first;
        for (int i = 0; i < 8 * many; i++) {
            left = left >>> 1 ^ ((left & 1) == 0 ? 0 : POLYNOMIAL);
        }
        return left ^ second;
    }

    int firstOf(int whole, int second, int many) {
        argument(many >= 0 && many <= 1000000);
        int left = whole ^ second;
        for (int i = 0; i < 8 * many; i++) {
            left = left < 0 ? (left ^ POLYNOMIAL) << 1 | 1 : left << 1;
        }
        return left;
    }

    int secondOf(int whole, int first, int many) {
        return joined(first, whole, many);
    }

    /** Brings the wanted check back over what is behind, and the four bytes are what lies between both sides. */
    int lay(int text, int place, int wanted) {
        List<Integer> row = text(text);
        such(place >= 0 && place <= row.size() - 4);
        int left = ~wanted;
        for (int i = row.size() - 1; i >= place; i--) {
            for (int bit = 0; bit < 8; bit++) {
                left = left < 0 ? (left ^ POLYNOMIAL) << 1 | 1 : left << 1;
            }
            if (i >= place + 4) {
                left ^= row.get(i);
            }
        }
        int laid = left ^ ~(int) checkOf(row.subList(0, place));
        for (int i = 0; i < 4; i++) {
            row.set(place + i, laid >>> 8 * i & 255);
        }
        return laid;
    }

    private static void ask(Way way, int times, String what) {
        for (int i = 0; i < times; i++) {
            way.row.add(what);
        }
    }

    private static void room(Way way, int more) {
        state(way.row.size() + more <= 400);
    }

    int near(int text, int drawer, int times) {
        List<Integer> row = text(text);
        Way way = way(drawer);
        argument(times >= 1 && times <= 50);
        such(row.size() >= 4);
        room(way, 2 * times);
        for (int i = 0; i < times; i++) {
            ask(way, 1, "below " + (8 * row.size() - 31));
            ask(way, 1, "int");
        }
        return times;
    }

    int odd(int text, int drawer, int many, int times) {
        List<Integer> row = text(text);
        Way way = way(drawer);
        argument(many >= 1 && many <= 31 && many % 2 == 1 && times >= 1 && times <= 10);
        such(8 * row.size() >= many);
        room(way, many * times);
        for (int i = 0; i < many * times; i++) {
            ask(way, 1, "between " + i % many + " " + 8 * row.size());
        }
        return times;
    }

    boolean make(int drawer, int high, int low) {
        seat(drawer);
        boolean was = ways[drawer] != null;
        ways[drawer] = new Way(high + " " + low);
        return was;
    }

    int split(int drawer, int to) {
        Way way = way(drawer);
        seat(to);
        room(way, 1);
        Way child = way.twin();
        ask(way, 1, "split");
        ask(child, 1, "born");
        ways[to] = child;
        return child.row.size();
    }

    int again(int drawer, int to) {
        Way way = way(drawer);
        seat(to);
        supported(!way.hasSplitting());
        ways[to] = way.twin();
        return way.row.size();
    }

    int asked(int drawer) {
        return way(drawer).row.size();
    }

    boolean isSameWay(int drawer, int other) {
        return way(drawer).isLike(way(other));
    }

    int alike(int drawer, int other, int many) {
        Way way = way(drawer);
        Way another = way(other);
        argument(drawer != other && many >= 1 && many <= 50);
        supported(way.isLike(another) && !way.hasSplitting());
        room(way, many);
        ask(way, many, "int");
        ask(another, many, "int");
        return many;
    }

    int below(int drawer, int bound, int many) {
        Way way = way(drawer);
        argument(bound > 0 && many >= 1 && many <= 50);
        room(way, many);
        ask(way, many, "below " + bound);
        return many;
    }

    int between(int drawer, int from, int to, int many) {
        Way way = way(drawer);
        argument(from < to && many >= 1 && many <= 50);
        room(way, many);
        ask(way, many, "between " + from + " " + to);
        return many;
    }

    int longs(int drawer, int many) {
        return twice(drawer, many, "long");
    }

    int truths(int drawer, int many) {
        return twice(drawer, many, "truth");
    }

    private int twice(int drawer, int many, String what) {
        Way way = way(drawer);
        argument(many >= 1 && many <= 50);
        supported(!way.hasSplitting());
        room(way, many);
        ask(way, many, what);
        return many;
    }

    int shuffle(int text, int drawer) {
        List<Integer> row = text(text);
        Way way = way(drawer);
        supported(!way.hasSplitting());
        room(way, Math.max(0, row.size() - 1));
        for (int i = 0; i < row.size() - 1; i++) {
            ask(way, 1, "between " + i + " " + row.size());
        }
        return row.size();
    }

    int select(int text, int index, int drawer) {
        List<Integer> row = text(text);
        Way way = way(drawer);
        such(index >= 0 && index < row.size());
        room(way, 1);
        ask(way, 1, "split");
        return row.stream().sorted().toList().get(index);
    }

    int put(int store, int key, int value, int drawer) {
        TreeMap<Integer, Integer> row = store(store);
        Way way = way(drawer);
        argument(value >= 0 && value <= 255);
        if (!row.containsKey(key)) {
            state(row.size() < 40);
            room(way, 1);
            ask(way, 1, "int");
        }
        Integer was = row.put(key, value);
        return was == null ? -1 : was;
    }

    int remove(int store, int key) {
        such(store(store).containsKey(key));
        return store(store).remove(key);
    }

    int get(int store, int key) {
        such(store(store).containsKey(key));
        return store(store).get(key);
    }

    int size(int store) {
        return store(store).size();
    }

    int rank(int store, int key) {
        return store(store).headMap(key).size();
    }

    int keyAt(int store, int index) {
        TreeMap<Integer, Integer> row = store(store);
        such(index >= 0 && index < row.size());
        return new ArrayList<>(row.keySet()).get(index);
    }

    int valueAt(int store, int index) {
        return store(store).get(keyAt(store, index));
    }

    int part(int store, int key, int to) {
        TreeMap<Integer, Integer> row = store(store);
        TreeMap<Integer, Integer> other = store(to);
        supported(other.isEmpty());
        Map<Integer, Integer> moved = new TreeMap<>(row.tailMap(key));
        row.keySet().removeAll(moved.keySet());
        other.putAll(moved);
        return other.size();
    }

    int merge(int store, int other) {
        TreeMap<Integer, Integer> row = store(store);
        TreeMap<Integer, Integer> behind = store(other);
        argument(store != other);
        supported(row.isEmpty() || behind.isEmpty() || row.lastKey() < behind.firstKey());
        state(row.size() + behind.size() <= 40);
        row.putAll(behind);
        behind.clear();
        return row.size();
    }

    int sum(int store, int from, int to) {
        int sum = 0;
        for (Map.Entry<Integer, Integer> entry : store(store).entrySet()) {
            if (entry.getKey() >= from && entry.getKey() <= to) {
                sum += entry.getValue();
            }
        }
        return sum;
    }

    long storeCheck(int store) {
        List<Integer> row = new ArrayList<>();
        for (Map.Entry<Integer, Integer> entry : store(store).entrySet()) {
            for (int i = 0; i < 4; i++) {
                row.add(entry.getKey() >> 8 * i & 255);
            }
            row.add(entry.getValue());
        }
        return checkOf(row);
    }

    float fullShare(int text) {
        return (float) text(text).size() / 120f;
    }

    double meanByte(int text) {
        List<Integer> row = text(text);
        if (row.isEmpty()) {
            throw new ArithmeticException();
        }
        return (double) row.stream().mapToInt(Integer::intValue).sum() / (double) row.size();
    }

    long checksum() {
        long sum = 7;
        for (int i = 0; i < 6; i++) {
            sum = 31 * (31 * sum + length(i)) + check(i);
        }
        for (int i = 0; i < 6; i++) {
            sum = 31 * sum + (ways[i] == null ? -1 : asked(i));
        }
        for (int i = 0; i < 4; i++) {
            sum = 31 * (31 * sum + size(i)) + storeCheck(i);
        }
        return sum;
    }

    boolean isSound() {
        return true;
    }
}
