import java.util.Random;
import java.util.function.Supplier;

/** All promises: runs of 512 calls, by seeds that are told here, each answered as the model does. */
final class RandomRunsTest {
    private static final int RUNS = 1500;
    private static final int CALLS = 512;
    private static final int OPERATIONS = 41;
    private static final int[] STRANGE = {Integer.MIN_VALUE, Integer.MIN_VALUE + 1, -256, -1, 0, 1, 31, 32, 255, 256, 1 << 28, 1 << 29, 1 << 30, Integer.MAX_VALUE - 1, Integer.MAX_VALUE};

    private final Random random;
    private final Checkdraw house = new Checkdraw();
    private final Model model = new Model();
    private final int[] weights = new int[OPERATIONS];
    private final int keys;
    private final int seeds;
    private final int wrongOf;
    private int calls = 0;

    private RandomRunsTest(int seed) {
        random = new Random(seed);
        for (int i = 0; i < OPERATIONS; i++) {
            weights[i] = random.nextInt(3) == 0 ? 0 : 1 + random.nextInt(random.nextInt(4) == 0 ? 30 : 4);
        }
        weights[15] = Math.max(1, weights[15]);
        keys = random.nextInt(3);
        seeds = 1 + random.nextInt(3);
        wrongOf = random.nextBoolean() ? 1000000 : 10 + random.nextInt(60);
    }

    public static void main(String[] args) {
        for (int run = 0; run < RUNS; run++) {
            RandomRunsTest test = new RandomRunsTest(run);
            while (test.calls < CALLS) {
                test.step(run);
            }
        }
        Due.end("RandomRunsTest");
    }

    private void step(int run) {
        int total = 0;
        for (int weight : weights) {
            total += weight;
        }
        int left = random.nextInt(total);
        int operation = 0;
        while (left >= weights[operation]) {
            left -= weights[operation];
            operation++;
        }
        String where = "run " + run + ", call " + (calls + 1) + ", operation " + operation;
        if (operation < 14) {
            onTexts(where, operation);
        } else if (operation < 26) {
            onDrawers(where, operation);
        } else {
            onStores(where, operation);
        }
        if (calls % 16 == 0) {
            both(where + ", checksum", house::checksum, model::checksum);
        }
    }

    /** A house is not asked more often than is promised, though a step may come to two calls. */
    private void both(String where, Supplier<?> got, Supplier<?> want) {
        if (calls == CALLS) {
            return;
        }
        calls++;
        Due.is(where, Due.outcome(got), Due.outcome(want));
    }

    /** A number within bounds, or now and then another one. */
    private int pick(int least, int greatest) {
        if (random.nextInt(wrongOf) == 0) {
            int kind = random.nextInt(3);
            return kind == 0 ? least - 1 : kind == 1 ? greatest + 1 : STRANGE[random.nextInt(STRANGE.length)];
        }
        int kind = random.nextInt(12);
        return kind == 0 || greatest <= least ? least : kind == 1 ? greatest : least + random.nextInt(greatest - least + 1);
    }

    private int text() {
        return pick(0, 5);
    }

    private int textOfModel(int text) {
        return text >= 0 && text <= 5 ? model.length(text) : 0;
    }

    private int few() {
        return random.nextInt(5) == 0 ? pick(1, 50) : pick(1, 4);
    }

    private int key() {
        if (keys == 0) {
            return random.nextInt(60) - 30;
        }
        if (keys == 1 && random.nextBoolean()) {
            return STRANGE[random.nextInt(STRANGE.length)];
        }
        return keys == 1 ? random.nextInt() : random.nextInt(12);
    }

    private void onTexts(String where, int operation) {
        int t = text();
        int has = textOfModel(t);
        int a = pick(0, 255);
        int b = text();
        int c = text();
        int n = random.nextInt();
        int m = random.nextInt();
        switch (operation) {
            case 0: both(where, () -> house.add(t, a), () -> model.add(t, a)); break;
            case 1: {
                int many = pick(1, 8);
                int[] s = new int[8];
                for (int i = 0; i < 8; i++) {
                    s[i] = pick(0, 255);
                }
                both(where, () -> house.addMore(t, many, s[0], s[1], s[2], s[3], s[4], s[5], s[6], s[7]), () -> model.addMore(t, many, s));
                break;
            }
            case 2: { int l = pick(Math.max(0, has - 5), has); both(where, () -> house.cut(t, l), () -> model.cut(t, l)); break; }
            case 3: both(where, () -> house.length(t), () -> model.length(t)); break;
            case 4: { int p = pick(0, has - 1); both(where, () -> house.byteAt(t, p), () -> model.byteAt(t, p)); break; }
            case 5: both(where, () -> house.copy(t, b), () -> model.copy(t, b)); break;
            case 6: both(where, () -> house.join(t, b, c), () -> model.join(t, b, c)); break;
            case 7: { int p = pick(0, 8 * has - 1); both(where, () -> house.flip(t, p), () -> model.flip(t, p)); break; }
            case 8: both(where, () -> house.check(t), () -> model.check(t)); break;
            case 9: { int p = behind(); both(where, () -> house.joined(n, m, p), () -> model.joined(n, m, p)); break; }
            case 10: { int p = behind(); both(where, () -> house.firstOf(n, m, p), () -> model.firstOf(n, m, p)); break; }
            case 11: { int p = behind(); both(where, () -> house.secondOf(n, m, p), () -> model.secondOf(n, m, p)); break; }
            case 12: { int p = pick(0, has - 4); both(where, () -> house.lay(t, p, n), () -> model.lay(t, p, n)); break; }
            default: both(where, () -> house.fullShare(t), () -> model.fullShare(t)); both(where, () -> house.meanByte(t), () -> model.meanByte(t)); break;
        }
    }

    /** Far ones are few, as the model goes over them one by one. */
    private int behind() {
        return random.nextInt(wrongOf) == 0 ? STRANGE[random.nextInt(10)] : random.nextInt(random.nextInt(20) == 0 ? 3000 : 130);
    }

    private void onDrawers(String where, int operation) {
        int t = text();
        int has = textOfModel(t);
        int d = pick(0, 5);
        int o = pick(0, 5);
        int many = few();
        int n = random.nextBoolean() ? pick(1, 5) : random.nextInt();
        int m = random.nextBoolean() ? pick(1, 5) : random.nextInt();
        switch (operation) {
            case 14: both(where, () -> house.near(t, d, many), () -> model.near(t, d, many)); break;
            case 15: { int s = random.nextInt(seeds); both(where, () -> house.make(d, s & 1, -s), () -> model.make(d, s & 1, -s)); break; }
            case 16: both(where, () -> house.split(d, o), () -> model.split(d, o)); break;
            case 17: both(where, () -> house.again(d, o), () -> model.again(d, o)); break;
            case 18: both(where, () -> house.asked(d), () -> model.asked(d)); break;
            case 19: both(where, () -> house.isSameWay(d, o), () -> model.isSameWay(d, o)); break;
            case 20: both(where, () -> house.alike(d, o, many), () -> model.alike(d, o, many)); break;
            case 21: both(where, () -> house.below(d, n, many), () -> model.below(d, n, many)); break;
            case 22: both(where, () -> house.between(d, n, m, many), () -> model.between(d, n, m, many)); break;
            case 23:
                both(where, () -> house.longs(d, many), () -> model.longs(d, many));
                both(where, () -> house.truths(o, many), () -> model.truths(o, many));
                break;
            case 24: both(where, () -> house.shuffle(t, d), () -> model.shuffle(t, d)); break;
            default: { int p = pick(0, has - 1); both(where, () -> house.select(t, p, d), () -> model.select(t, p, d)); break; }
        }
    }

    private void onStores(String where, int operation) {
        int s = pick(0, 3);
        int o = pick(0, 3);
        int d = pick(0, 5);
        int k = key();
        int l = key();
        int v = pick(0, 255);
        int i = pick(0, s >= 0 && s <= 3 ? model.size(s) - 1 : 0);
        switch (operation) {
            case 26: case 27: both(where, () -> house.put(s, k, v, d), () -> model.put(s, k, v, d)); break;
            case 28: both(where, () -> house.remove(s, k), () -> model.remove(s, k)); break;
            case 29: both(where, () -> house.get(s, k), () -> model.get(s, k)); break;
            case 30: both(where, () -> house.size(s), () -> model.size(s)); break;
            case 31: both(where, () -> house.rank(s, k), () -> model.rank(s, k)); break;
            case 32: both(where, () -> house.keyAt(s, i), () -> model.keyAt(s, i)); break;
            case 33: both(where, () -> house.valueAt(s, i), () -> model.valueAt(s, i)); break;
            case 34: both(where, () -> house.part(s, k, o), () -> model.part(s, k, o)); break;
            case 35: both(where, () -> house.merge(s, o), () -> model.merge(s, o)); break;
            case 36: both(where, () -> house.sum(s, k, l), () -> model.sum(s, k, l)); break;
            case 37: both(where, () -> house.storeCheck(s), () -> model.storeCheck(s)); break;
            case 38: { int many = pick(1, 31) | 1; int times = pick(1, 10); int t = text(); both(where, () -> house.odd(t, d, many, times), () -> model.odd(t, d, many, times)); break; }
            case 39: both(where, () -> house.isSound(), () -> model.isSound()); break;
            default: both(where, () -> house.checksum(), () -> model.checksum()); break;
        }
    }
}
