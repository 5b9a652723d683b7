import java.util.NoSuchElementException;

/** A house of six texts with checks, of six drawers, and of four stores that stand on what was drawn. */
public final class Checkdraw {
    private static final int TEXTS = 6;
    private static final int DRAWERS = 6;
    private static final int STORES = 4;
    private static final int MOST_BYTES = 120;
    private static final int MOST_ASKS = 400;
    private static final int MOST_KEYS = 40;
    private static final int MOST_GIVEN = 8;
    private static final int MOST_BEHIND = 1000000;
    private static final int MOST_DRAWN = 50;
    private static final int MOST_TRIES = 10;
    private static final int MOST_TURNED = 31;
    private static final int NEAR_BITS = 32;
    private static final int LAID_BYTES = 4;
    private static final int GREATEST_INT = 0x7FFFFFFF;

    private final Text[] texts = new Text[TEXTS];
    private final Drawer[] drawers = new Drawer[DRAWERS];
    private final Store[] stores = new Store[STORES];

    // What calls work on, kept here so that no call has to make it.
    private final Text trial = new Text();
    private final Drawer spare = new Drawer();
    private final int[] numbers = new int[8 * MOST_BYTES];

    public Checkdraw() {
        for (int i = 0; i < TEXTS; i++) {
            texts[i] = new Text();
        }
        for (int i = 0; i < DRAWERS; i++) {
            drawers[i] = new Drawer();
        }
        for (int i = 0; i < STORES; i++) {
            stores[i] = new Store();
        }
    }

    // ---- Texts ----

    public int add(int text, int sign) throws IndexOutOfBoundsException, IllegalArgumentException, IllegalStateException {
        Text grown = textOf(text);
        needWithin(sign, 0, 255);
        needRoom(grown.count + 1);
        grown.push(sign);
        return grown.count;
    }

    public int addMore(int text, int many, int a, int b, int c, int d, int e, int f, int g, int h) throws IndexOutOfBoundsException, IllegalArgumentException, IllegalStateException {
        Text grown = textOf(text);
        needWithin(many, 1, MOST_GIVEN);
        int[] given = {a, b, c, d, e, f, g, h};
        for (int i = 0; i < many && i < given.length; i++) {
            needWithin(given[i], 0, 255);
        }
        needRoom(grown.count + many);
        for (int i = 0; i < many && i < given.length; i++) {
            grown.push(given[i]);
        }
        return grown.count;
    }

    public int cut(int text, int length) throws IndexOutOfBoundsException, IllegalArgumentException {
        Text shortened = textOf(text);
        needWithin(length, 0, shortened.count);
        int gone = shortened.count - length;
        shortened.shorten(length);
        return gone;
    }

    public int length(int text) throws IndexOutOfBoundsException {
        return textOf(text).count;
    }

    public int byteAt(int text, int place) throws IndexOutOfBoundsException, NoSuchElementException {
        Text read = textOf(text);
        needPlace(place, read.count);
        return read.signAt(place);
    }

    public int copy(int text, int to) throws IndexOutOfBoundsException {
        Text model = textOf(text);
        Text changed = textOf(to);
        changed.become(model);
        return changed.count;
    }

    public int join(int first, int second, int to) throws IndexOutOfBoundsException, IllegalStateException {
        Text ahead = textOf(first);
        Text behind = textOf(second);
        Text changed = textOf(to);
        needRoom(ahead.count + behind.count);
        trial.become(ahead);
        trial.pushAll(behind);
        changed.become(trial);
        return changed.count;
    }

    public int flip(int text, int bit) throws IndexOutOfBoundsException, NoSuchElementException {
        Text changed = textOf(text);
        needPlace(bit, 8 * changed.count);
        changed.turn(bit);
        return changed.signAt(bit >> 3);
    }

    // ---- Checks ----

    public long check(int text) throws IndexOutOfBoundsException {
        return Checks.unsigned(textOf(text).ownCheck());
    }

    public int joined(int first, int second, int many) throws IllegalArgumentException {
        needWithin(many, 0, MOST_BEHIND);
        return Checks.ofBoth(first, second, many);
    }

    public int firstOf(int whole, int second, int many) throws IllegalArgumentException {
        needWithin(many, 0, MOST_BEHIND);
        return Checks.ofFirst(whole, second, many);
    }

    public int secondOf(int whole, int first, int many) throws IllegalArgumentException {
        needWithin(many, 0, MOST_BEHIND);
        return Checks.ofSecond(whole, first, many);
    }

    public int lay(int text, int place, int wanted) throws IndexOutOfBoundsException, NoSuchElementException {
        Text changed = textOf(text);
        needPlace(place, changed.count - LAID_BYTES + 1);
        changed.setFour(place, 0);
        int laid = Checks.fourFor(wanted ^ changed.ownCheck(), changed.count - place - LAID_BYTES);
        changed.setFour(place, laid);
        return laid;
    }

    // ---- Changes that a check sees ----

    public int near(int text, int drawer, int times) throws IndexOutOfBoundsException, IllegalArgumentException, NoSuchElementException, IllegalStateException {
        Text tried = textOf(text);
        Drawer drawn = drawerOf(drawer);
        needWithin(times, 1, MOST_DRAWN);
        needMany(tried.count, LAID_BYTES);
        needAsks(drawn, 2 * times);
        int before = tried.ownCheck();
        int seen = 0;
        for (int i = 0; i < times; i++) {
            trial.become(tried);
            turnNear(drawn);
            if (trial.ownCheck() != before) {
                seen++;
            }
        }
        return seen;
    }

    private void turnNear(Drawer drawn) {
        int place = drawn.askBelow(8 * trial.count - NEAR_BITS + 1);
        int bits = drawn.askInt();
        if (bits == 0) {
            bits = 1;
        }
        for (int i = 0; i < NEAR_BITS; i++) {
            if ((bits >>> i & 1) != 0) {
                trial.turn(place + i);
            }
        }
    }

    public int odd(int text, int drawer, int many, int times) throws IndexOutOfBoundsException, IllegalArgumentException, NoSuchElementException, IllegalStateException {
        Text tried = textOf(text);
        Drawer drawn = drawerOf(drawer);
        needWithin(many, 1, MOST_TURNED);
        needWithin(many & 1, 1, 1);
        needWithin(times, 1, MOST_TRIES);
        needMany(8 * tried.count, many);
        needAsks(drawn, many * times);
        int before = tried.ownCheck();
        int seen = 0;
        for (int i = 0; i < times; i++) {
            trial.become(tried);
            turnUnlike(drawn, many);
            if (trial.ownCheck() != before) {
                seen++;
            }
        }
        return seen;
    }

    private void turnUnlike(Drawer drawn, int many) {
        int bits = 8 * trial.count;
        for (int i = 0; i < bits && i < numbers.length; i++) {
            numbers[i] = i;
        }
        for (int i = 0; i < many && i < numbers.length; i++) {
            int place = drawn.askBetween(i, bits);
            if (place >= 0 && place < numbers.length) {
                trial.turn(numbers[place]);
                numbers[place] = numbers[i];
            }
        }
    }

    // ---- Drawers ----

    public boolean make(int drawer, int high, int low) throws IndexOutOfBoundsException {
        Drawer made = seatOf(drawer);
        boolean was = made.there;
        made.begin(((long) high << 32) | (low & 0xFFFFFFFFL));
        return was;
    }

    public int split(int drawer, int to) throws IndexOutOfBoundsException, IllegalStateException {
        Drawer mother = drawerOf(drawer);
        Drawer child = seatOf(to);
        needAsks(mother, 1);
        // The spare one comes between, as the mother may be the one that is replaced.
        mother.splitInto(spare);
        child.become(spare);
        return child.way.count;
    }

    public int again(int drawer, int to) throws IndexOutOfBoundsException, UnsupportedOperationException {
        Drawer model = drawerOf(drawer);
        Drawer made = seatOf(to);
        needUnsplit(model);
        made.comeBy(model.way);
        return made.way.count;
    }

    public int asked(int drawer) throws IndexOutOfBoundsException {
        return drawerOf(drawer).way.count;
    }

    public boolean isSameWay(int drawer, int other) throws IndexOutOfBoundsException {
        Drawer one = drawerOf(drawer);
        Drawer another = drawerOf(other);
        return one.way.isLike(another.way);
    }

    public int alike(int drawer, int other, int many) throws IndexOutOfBoundsException, IllegalArgumentException, UnsupportedOperationException, IllegalStateException {
        Drawer one = drawerOf(drawer);
        Drawer another = drawerOf(other);
        needUnlike(drawer, other);
        needWithin(many, 1, MOST_DRAWN);
        if (!one.way.isLike(another.way)) {
            throw new UnsupportedOperationException("The drawers did not come by one way");
        }
        needUnsplit(one);
        needAsks(one, many);
        int same = 0;
        for (int i = 0; i < many; i++) {
            if (one.askInt() == another.askInt()) {
                same++;
            }
        }
        return same;
    }

    public int below(int drawer, int bound, int many) throws IndexOutOfBoundsException, IllegalArgumentException, IllegalStateException {
        Drawer drawn = drawerOf(drawer);
        needWithin(bound, 1, GREATEST_INT);
        needWithin(many, 1, MOST_DRAWN);
        needAsks(drawn, many);
        int within = 0;
        for (int i = 0; i < many; i++) {
            int number = drawn.askBelow(bound);
            if (number >= 0 && number < bound) {
                within++;
            }
        }
        return within;
    }

    public int between(int drawer, int from, int to, int many) throws IndexOutOfBoundsException, IllegalArgumentException, IllegalStateException {
        Drawer drawn = drawerOf(drawer);
        if (from >= to) {
            throw new IllegalArgumentException("The upper bound is not above the lower one");
        }
        needWithin(many, 1, MOST_DRAWN);
        needAsks(drawn, many);
        int within = 0;
        for (int i = 0; i < many; i++) {
            int number = drawn.askBetween(from, to);
            if (number >= from && number < to) {
                within++;
            }
        }
        return within;
    }

    public int longs(int drawer, int many) throws IndexOutOfBoundsException, IllegalArgumentException, UnsupportedOperationException, IllegalStateException {
        Drawer drawn = drawerWithTwin(drawer, many);
        int same = 0;
        for (int i = 0; i < many; i++) {
            if (drawn.askLong() == spare.askLong()) {
                same++;
            }
        }
        return same;
    }

    public int truths(int drawer, int many) throws IndexOutOfBoundsException, IllegalArgumentException, UnsupportedOperationException, IllegalStateException {
        Drawer drawn = drawerWithTwin(drawer, many);
        int same = 0;
        for (int i = 0; i < many; i++) {
            if (drawn.askTruth() == spare.askTruth()) {
                same++;
            }
        }
        return same;
    }

    /** The drawer that may be asked so often; the spare one is another one of its way then. */
    private Drawer drawerWithTwin(int drawer, int many) {
        Drawer drawn = drawerOf(drawer);
        needWithin(many, 1, MOST_DRAWN);
        needUnsplit(drawn);
        needAsks(drawn, many);
        spare.comeBy(drawn.way);
        return drawn;
    }

    public int shuffle(int text, int drawer) throws IndexOutOfBoundsException, UnsupportedOperationException, IllegalStateException {
        Text kept = textOf(text);
        Drawer drawn = drawerOf(drawer);
        int changes = Math.max(0, kept.count - 1);
        needUnsplit(drawn);
        needAsks(drawn, changes);
        spare.comeBy(drawn.way);
        trial.become(kept);
        for (int i = 0; i < changes; i++) {
            trial.swap(i, drawn.askBetween(i, kept.count));
        }
        bringBack(changes);
        return trial.sameAs(kept);
    }

    /** Undoes the last change first, so all that the spare drawer tells is asked for ahead. */
    private void bringBack(int changes) {
        for (int i = 0; i < changes && i < numbers.length; i++) {
            numbers[i] = spare.askBetween(i, trial.count);
        }
        for (int i = changes - 1; i >= 0; i--) {
            if (i < numbers.length) {
                trial.swap(i, numbers[i]);
            }
        }
    }

    public int select(int text, int index, int drawer) throws IndexOutOfBoundsException, NoSuchElementException, IllegalStateException {
        Text searched = textOf(text);
        Drawer mother = drawerOf(drawer);
        needPlace(index, searched.count);
        needAsks(mother, 1);
        mother.splitInto(spare);
        trial.become(searched);
        return rankedInTrial(index);
    }

    /** Each round leaves out at least the byte that was chosen in it, so as many rounds as bytes will do. */
    private int rankedInTrial(int index) {
        int sought = index;
        int chosen = 0;
        boolean found = false;
        for (int round = 0; round < MOST_BYTES && !found; round++) {
            // The source is asked itself, as these choices are not counted.
            chosen = trial.signAt(spare.source.nextBelow(trial.count));
            int less = trial.countWithin(0, chosen - 1);
            int same = trial.countWithin(chosen, chosen);
            if (sought < less) {
                trial.keepWithin(0, chosen - 1);
            } else if (sought < less + same) {
                found = true;
            } else {
                sought -= less + same;
                trial.keepWithin(chosen + 1, 255);
            }
        }
        return chosen;
    }

    // ---- Stores ----

    public int put(int store, int key, int value, int drawer) throws IndexOutOfBoundsException, IllegalArgumentException, IllegalStateException {
        Store changed = storeOf(store);
        Drawer drawn = drawerOf(drawer);
        needWithin(value, 0, 255);
        Node there = changed.nodeOf(key);
        if (there != null) {
            int was = there.value;
            there.value = value;
            return was;
        }
        needKeyRoom(changed.held() + 1);
        needAsks(drawn, 1);
        changed.bring(new Node(key, value, drawn.askInt()));
        return -1;
    }

    public int remove(int store, int key) throws IndexOutOfBoundsException, NoSuchElementException {
        Store changed = storeOf(store);
        int value = valueOf(changed.nodeOf(key));
        changed.drop(key);
        return value;
    }

    public int get(int store, int key) throws IndexOutOfBoundsException, NoSuchElementException {
        return valueOf(storeOf(store).nodeOf(key));
    }

    public int size(int store) throws IndexOutOfBoundsException {
        return storeOf(store).held();
    }

    public int rank(int store, int key) throws IndexOutOfBoundsException {
        return storeOf(store).lessThan(key);
    }

    public int keyAt(int store, int index) throws IndexOutOfBoundsException, NoSuchElementException {
        Node node = storeOf(store).nodeAt(index);
        if (node == null) {
            throw new NoSuchElementException("There are not so many keys");
        }
        return node.key;
    }

    public int valueAt(int store, int index) throws IndexOutOfBoundsException, NoSuchElementException {
        return valueOf(storeOf(store).nodeAt(index));
    }

    public int part(int store, int key, int to) throws IndexOutOfBoundsException, UnsupportedOperationException {
        Store parted = storeOf(store);
        Store other = storeOf(to);
        if (other.held() > 0) {
            throw new UnsupportedOperationException("The other store has a key");
        }
        other.top = parted.takeFrom(key);
        return other.held();
    }

    public int merge(int store, int other) throws IndexOutOfBoundsException, IllegalArgumentException, UnsupportedOperationException, IllegalStateException {
        Store grown = storeOf(store);
        Store emptied = storeOf(other);
        needUnlike(store, other);
        if (!grown.isAhead(emptied)) {
            throw new UnsupportedOperationException("The keys of the other store are not all greater");
        }
        needKeyRoom(grown.held() + emptied.held());
        grown.hangBehind(emptied.top);
        emptied.top = null;
        return grown.held();
    }

    public int sum(int store, int from, int to) throws IndexOutOfBoundsException {
        Store added = storeOf(store);
        int sum = 0;
        for (int i = added.lessThan(from); i < MOST_KEYS; i++) {
            Node node = added.nodeAt(i);
            if (node != null && node.key <= to) {
                sum += node.value;
            }
        }
        return sum;
    }

    public long storeCheck(int store) throws IndexOutOfBoundsException {
        return Checks.unsigned(storeOf(store).ownCheck());
    }

    // ---- Over all ----

    public float fullShare(int text) throws IndexOutOfBoundsException {
        return (float) textOf(text).count / (float) MOST_BYTES;
    }

    public double meanByte(int text) throws IndexOutOfBoundsException, ArithmeticException {
        Text read = textOf(text);
        if (read.count == 0) {
            throw new ArithmeticException("The text has no byte");
        }
        return (double) read.total() / (double) read.count;
    }

    public long checksum() {
        long sum = 7;
        for (int i = 0; i < TEXTS; i++) {
            sum = 31 * sum + texts[i].count;
            sum = 31 * sum + Checks.unsigned(texts[i].ownCheck());
        }
        for (int i = 0; i < DRAWERS; i++) {
            sum = 31 * sum + (drawers[i].there ? drawers[i].way.count : -1);
        }
        for (int i = 0; i < STORES; i++) {
            sum = 31 * sum + stores[i].held();
            sum = 31 * sum + Checks.unsigned(stores[i].ownCheck());
        }
        return sum;
    }

    public boolean isSound() {
        for (int i = 0; i < TEXTS; i++) {
            if (texts[i].ownCheck() != texts[i].checkByBits()) {
                return false;
            }
            for (int j = 0; j < TEXTS; j++) {
                if (!isPartedRight(texts[i], texts[j])) {
                    return false;
                }
            }
        }
        for (int i = 0; i < STORES; i++) {
            if (!stores[i].isInOrder()) {
                return false;
            }
        }
        return true;
    }

    private static boolean isPartedRight(Text ahead, Text behind) {
        int first = ahead.ownCheck();
        int second = behind.ownCheck();
        int whole = behind.checkBehind(first);
        return Checks.ofBoth(first, second, behind.count) == whole
            && Checks.ofFirst(whole, second, behind.count) == first
            && Checks.ofSecond(whole, first, behind.count) == second;
    }

    // ---- What calls need, or throw ----

    private Text textOf(int text) {
        if (text < 0 || text >= TEXTS) {
            throw new IndexOutOfBoundsException("There is no such text");
        }
        return texts[text];
    }

    /** Where a drawer may be, whether there is one or not. */
    private Drawer seatOf(int drawer) {
        if (drawer < 0 || drawer >= DRAWERS) {
            throw new IndexOutOfBoundsException("A drawer is 0 to 5");
        }
        return drawers[drawer];
    }

    private Drawer drawerOf(int drawer) {
        Drawer seat = seatOf(drawer);
        if (!seat.there) {
            throw new IndexOutOfBoundsException("There is no such drawer");
        }
        return seat;
    }

    private Store storeOf(int store) {
        if (store < 0 || store >= STORES) {
            throw new IndexOutOfBoundsException("There is no such store");
        }
        return stores[store];
    }

    private static int valueOf(Node node) {
        if (node == null) {
            throw new NoSuchElementException("There is no such key");
        }
        return node.value;
    }

    private static void needPlace(int place, int many) {
        if (place < 0 || place >= many) {
            throw new NoSuchElementException("There is no such place");
        }
    }

    private static void needMany(int there, int needed) {
        if (there < needed) {
            throw new NoSuchElementException("The text is too short");
        }
    }

    private static void needWithin(int number, int least, int greatest) {
        if (number < least || number > greatest) {
            throw new IllegalArgumentException("A number is out of range");
        }
    }

    private static void needUnlike(int one, int other) {
        if (one == other) {
            throw new IllegalArgumentException("Both are the same");
        }
    }

    private static void needRoom(int bytes) {
        if (bytes > MOST_BYTES) {
            throw new IllegalStateException("A text has at most 120 bytes");
        }
    }

    private static void needKeyRoom(int keys) {
        if (keys > MOST_KEYS) {
            throw new IllegalStateException("A store has at most 40 keys");
        }
    }

    private static void needAsks(Drawer drawn, int more) {
        if (drawn.way.count + more > MOST_ASKS) {
            throw new IllegalStateException("A drawer is asked at most 400 times");
        }
    }

    private static void needUnsplit(Drawer drawn) {
        if (drawn.way.isSplit) {
            throw new UnsupportedOperationException("The drawer's way has a splitting");
        }
    }

    /**
     * The arithmetic of checks. The bit of value 2 to the 31 stands for the power 0, that of value 1 for the power 31,
     * as the check is told turned round.
     */
    private static final class Checks {
        private static final int POLYNOMIAL = 0x82F63B78;
        private static final int ONE = 0x80000000;
        /** The power 8, and its inverse: a byte onward, and a byte back. */
        private static final int BYTE_ON = 0x00800000;
        private static final int BYTE_BACK = 0xFDE39562;
        /** What each half of a byte leaves behind when it is shifted out. */
        private static final int[] HALF_BYTES = {
            0x00000000, 0x105EC76F, 0x20BD8EDE, 0x30E349B1, 0x417B1DBC, 0x5125DAD3, 0x61C69362, 0x7198540D,
            0x82F63B78, 0x92A8FC17, 0xA24BB5A6, 0xB21572C9, 0xC38D26C4, 0xD3D3E1AB, 0xE330A81A, 0xF36E6F75};

        static long unsigned(int check) {
            return check & 0xFFFFFFFFL;
        }

        /** The check of a text with one more byte. */
        static int withSign(int check, int sign) {
            int left = ~check ^ (sign & 255);
            left = (left >>> 4) ^ HALF_BYTES[left & 15];
            left = (left >>> 4) ^ HALF_BYTES[left & 15];
            return ~left;
        }

        /** The same by the division itself, bit after bit, so that isSound has something to compare with. */
        static int withSignByBits(int check, int sign) {
            int left = ~check ^ (sign & 255);
            for (int i = 0; i < 8; i++) {
                left = onePowerUp(left);
            }
            return ~left;
        }

        static int ofBoth(int first, int second, int many) {
            return moved(first, BYTE_ON, many) ^ second;
        }

        static int ofFirst(int whole, int second, int many) {
            return moved(whole ^ second, BYTE_BACK, many);
        }

        static int ofSecond(int whole, int first, int many) {
            return whole ^ moved(first, BYTE_ON, many);
        }

        /** The four bytes that change a check by so much, in place of zeros, with so many bytes behind them. */
        static int fourFor(int change, int behind) {
            return moved(change, BYTE_BACK, behind + 4);
        }

        /** Multiplies by a step so many times, by squares of the step. */
        private static int moved(int check, int step, int many) {
            int result = check;
            int square = step;
            for (int left = many; left > 0; left >>>= 1) {
                if ((left & 1) != 0) {
                    result = product(result, square);
                }
                square = product(square, square);
            }
            return result;
        }

        private static int product(int one, int other) {
            int result = 0;
            int raised = other;
            for (int bit = ONE; bit != 0; bit >>>= 1) {
                if ((one & bit) != 0) {
                    result ^= raised;
                }
                raised = onePowerUp(raised);
            }
            return result;
        }

        private static int onePowerUp(int check) {
            return (check & 1) != 0 ? (check >>> 1) ^ POLYNOMIAL : check >>> 1;
        }
    }

    /** A row of bytes. */
    private static final class Text {
        private final int[] signs = new int[MOST_BYTES];
        private int count;

        void push(int sign) {
            if (count >= 0 && count < signs.length) {
                signs[count] = sign;
                count++;
            }
        }

        void pushAll(Text other) {
            for (int i = 0; i < other.count; i++) {
                push(other.signAt(i));
            }
        }

        void shorten(int many) {
            count = many;
        }

        void become(Text other) {
            System.arraycopy(other.signs, 0, signs, 0, MOST_BYTES);
            count = other.count;
        }

        int signAt(int place) {
            return place >= 0 && place < signs.length ? signs[place] : 0;
        }

        void setSign(int place, int sign) {
            if (place >= 0 && place < signs.length) {
                signs[place] = sign;
            }
        }

        void setFour(int place, int four) {
            for (int i = 0; i < LAID_BYTES; i++) {
                setSign(place + i, four >>> (8 * i) & 255);
            }
        }

        void turn(int bit) {
            setSign(bit >> 3, signAt(bit >> 3) ^ (1 << (bit & 7)));
        }

        void swap(int place, int other) {
            int sign = signAt(place);
            setSign(place, signAt(other));
            setSign(other, sign);
        }

        int ownCheck() {
            return checkBehind(0);
        }

        /** The check of this text behind another one that has the check that is told; an empty one has 0. */
        int checkBehind(int first) {
            int check = first;
            for (int i = 0; i < count; i++) {
                check = Checks.withSign(check, signAt(i));
            }
            return check;
        }

        int checkByBits() {
            int check = 0;
            for (int i = 0; i < count; i++) {
                check = Checks.withSignByBits(check, signAt(i));
            }
            return check;
        }

        int total() {
            int total = 0;
            for (int i = 0; i < count; i++) {
                total += signAt(i);
            }
            return total;
        }

        int sameAs(Text other) {
            int same = 0;
            for (int i = 0; i < count; i++) {
                if (signAt(i) == other.signAt(i)) {
                    same++;
                }
            }
            return same;
        }

        int countWithin(int least, int greatest) {
            int within = 0;
            for (int i = 0; i < count; i++) {
                if (signAt(i) >= least && signAt(i) <= greatest) {
                    within++;
                }
            }
            return within;
        }

        void keepWithin(int least, int greatest) {
            int before = count;
            count = 0;
            for (int i = 0; i < before; i++) {
                if (signAt(i) >= least && signAt(i) <= greatest) {
                    push(signAt(i));
                }
            }
        }
    }

    /** Tells numbers by the method of SplittableRandom: a sum that goes on by an odd step, mixed. */
    private static final class Source {
        private static final long GOLDEN_STEP = 0x9E3779B97F4A7C15L;

        private long sum;
        private long step;

        void begin(long seed) {
            sum = seed;
            step = GOLDEN_STEP;
        }

        void become(Source other) {
            sum = other.sum;
            step = other.step;
        }

        void splitInto(Source child) {
            long childSum = nextLong();
            sum += step;
            child.sum = childSum;
            child.step = stepOf(sum);
        }

        long nextLong() {
            sum += step;
            long mixed = (sum ^ (sum >>> 30)) * 0xBF58476D1CE4E5B9L;
            mixed = (mixed ^ (mixed >>> 27)) * 0x94D049BB133111EBL;
            return mixed ^ (mixed >>> 31);
        }

        int nextInt() {
            return (int) (nextLong() >>> 32);
        }

        int nextBelow(int bound) {
            return nextBetween(0, bound);
        }

        int nextBetween(int from, int to) {
            long width = (long) to - from;
            if (width <= 0) {
                return from;
            }
            return (int) (from + (nextLong() >>> 1) % width);
        }

        boolean nextTruth() {
            return nextLong() < 0;
        }

        /** A step has to be odd, and its bits are to change often, or its sums would be too much alike. */
        private static long stepOf(long sum) {
            long mixed = (sum ^ (sum >>> 33)) * 0xFF51AFD7ED558CCDL;
            mixed = (mixed ^ (mixed >>> 33)) * 0xC4CEB9FE1A85EC53L;
            mixed = (mixed ^ (mixed >>> 33)) | 1;
            return Long.bitCount(mixed ^ (mixed >>> 1)) < 24 ? mixed ^ 0xAAAAAAAAAAAAAAAAL : mixed;
        }
    }

    /** A seed, and in a row all that was asked for since. */
    private static final class Way {
        private static final int INT = 1;
        private static final int BELOW = 2;
        private static final int BETWEEN = 3;
        private static final int LONG = 4;
        private static final int TRUTH = 5;
        private static final int SPLIT = 6;
        private static final int SPLIT_FROM = 7;

        private final int[] kinds = new int[MOST_ASKS];
        private final int[] froms = new int[MOST_ASKS];
        private final int[] tos = new int[MOST_ASKS];
        private long seed;
        private int count;
        private boolean isSplit;

        void begin(long by) {
            seed = by;
            count = 0;
            isSplit = false;
        }

        void note(int kind, int from, int to) {
            if (count >= 0 && count < MOST_ASKS) {
                kinds[count] = kind;
                froms[count] = from;
                tos[count] = to;
                count++;
            }
        }

        void noteSplit(int kind) {
            note(kind, 0, 0);
            isSplit = true;
        }

        void become(Way other) {
            System.arraycopy(other.kinds, 0, kinds, 0, MOST_ASKS);
            System.arraycopy(other.froms, 0, froms, 0, MOST_ASKS);
            System.arraycopy(other.tos, 0, tos, 0, MOST_ASKS);
            seed = other.seed;
            count = other.count;
            isSplit = other.isSplit;
        }

        boolean isLike(Way other) {
            if (seed != other.seed || count != other.count) {
                return false;
            }
            for (int i = 0; i < count && i < MOST_ASKS; i++) {
                if (kinds[i] != other.kinds[i] || froms[i] != other.froms[i] || tos[i] != other.tos[i]) {
                    return false;
                }
            }
            return true;
        }

        /** Asks a source for all of this again; ways with a splitting are refused ahead of this. */
        void tellAgain(Source source) {
            source.begin(seed);
            for (int i = 0; i < count && i < MOST_ASKS; i++) {
                switch (kinds[i]) {
                    case INT:
                        source.nextInt();
                        break;
                    case BELOW:
                        source.nextBelow(tos[i]);
                        break;
                    case BETWEEN:
                        source.nextBetween(froms[i], tos[i]);
                        break;
                    case LONG:
                        source.nextLong();
                        break;
                    case TRUTH:
                        source.nextTruth();
                        break;
                    default:
                        break;
                }
            }
        }
    }

    /** A source with the way that it came by. */
    private static final class Drawer {
        private final Source source = new Source();
        private final Way way = new Way();
        private boolean there;

        void begin(long seed) {
            source.begin(seed);
            way.begin(seed);
            there = true;
        }

        void comeBy(Way other) {
            way.become(other);
            way.tellAgain(source);
            there = true;
        }

        void become(Drawer other) {
            source.become(other.source);
            way.become(other.way);
            there = other.there;
        }

        void splitInto(Drawer child) {
            child.way.become(way);
            child.way.noteSplit(Way.SPLIT_FROM);
            child.there = true;
            source.splitInto(child.source);
            way.noteSplit(Way.SPLIT);
        }

        int askInt() {
            way.note(Way.INT, 0, 0);
            return source.nextInt();
        }

        int askBelow(int bound) {
            way.note(Way.BELOW, 0, bound);
            return source.nextBelow(bound);
        }

        int askBetween(int from, int to) {
            way.note(Way.BETWEEN, from, to);
            return source.nextBetween(from, to);
        }

        long askLong() {
            way.note(Way.LONG, 0, 0);
            return source.nextLong();
        }

        boolean askTruth() {
            way.note(Way.TRUTH, 0, 0);
            return source.nextTruth();
        }
    }

    /** A key with its value, its drawn int, and how many nodes stand from it downward, itself counted. */
    private static final class Node {
        private final int key;
        private final int drawn;
        private int value;
        private int count;
        private Node less;
        private Node more;

        Node(int key, int value, int drawn) {
            this.key = key;
            this.value = value;
            this.drawn = drawn;
            this.count = 1;
        }
    }

    /** A tree by its keys in which none stands under one that was drawn less. */
    private static final class Store {
        private Node top;

        int held() {
            return countOf(top);
        }

        private static int countOf(Node node) {
            return node == null ? 0 : node.count;
        }

        Node nodeOf(int key) {
            Node at = top;
            while (at != null && at.key != key) {
                at = key < at.key ? at.less : at.more;
            }
            return at;
        }

        Node nodeAt(int index) {
            int left = index;
            Node at = top;
            while (at != null && left != countOf(at.less)) {
                if (left < countOf(at.less)) {
                    at = at.less;
                } else {
                    left -= countOf(at.less) + 1;
                    at = at.more;
                }
            }
            return at;
        }

        int lessThan(int key) {
            int less = 0;
            Node at = top;
            while (at != null) {
                if (at.key < key) {
                    less += countOf(at.less) + 1;
                    at = at.more;
                } else {
                    at = at.less;
                }
            }
            return less;
        }

        void bring(Node node) {
            Node greater = takeFrom(node.key);
            hangBehind(node);
            hangBehind(greater);
        }

        void drop(int key) {
            Node next = nodeAt(lessThan(key) + 1);
            Node greater = next == null ? null : takeFrom(next.key);
            takeFrom(key);
            hangBehind(greater);
        }

        /**
         * Takes the nodes from a key on out, and returns their top. What is left to be parted hangs under the last
         * node of either side; each node on the way down loses what goes to the side that it is not on.
         */
        Node takeFrom(int key) {
            int fewer = lessThan(key);
            int greater = held() - fewer;
            Node taken = null;
            Node lastKept = null;
            Node lastTaken = null;
            Node at = top;
            top = null;
            while (at != null) {
                if (at.key < key) {
                    at.count -= greater;
                    fewer -= countOf(at.less) + 1;
                    hangUnder(lastKept, true, at);
                    lastKept = at;
                    at = at.more;
                } else {
                    at.count -= fewer;
                    greater -= countOf(at.more) + 1;
                    if (lastTaken == null) {
                        taken = at;
                    } else {
                        lastTaken.less = at;
                    }
                    lastTaken = at;
                    at = at.less;
                }
            }
            hangUnder(lastKept, true, null);
            if (lastTaken != null) {
                lastTaken.less = null;
            }
            return taken;
        }

        /** Hangs nodes in whose keys are all greater; of the two tops the one that was drawn greater stands above. */
        void hangBehind(Node others) {
            Node own = top;
            Node other = others;
            Node last = null;
            boolean isLastOwn = true;
            while (own != null && other != null) {
                if (own.drawn >= other.drawn) {
                    own.count += other.count;
                    hangUnder(last, isLastOwn, own);
                    last = own;
                    isLastOwn = true;
                    own = own.more;
                } else {
                    other.count += own.count;
                    hangUnder(last, isLastOwn, other);
                    last = other;
                    isLastOwn = false;
                    other = other.less;
                }
            }
            hangUnder(last, isLastOwn, own == null ? other : own);
        }

        private void hangUnder(Node last, boolean isMore, Node node) {
            if (last == null) {
                top = node;
            } else if (isMore) {
                last.more = node;
            } else {
                last.less = node;
            }
        }

        boolean isAhead(Store other) {
            Node greatest = nodeAt(held() - 1);
            Node least = other.nodeAt(0);
            return greatest == null || least == null || greatest.key < least.key;
        }

        int ownCheck() {
            int check = 0;
            for (int i = 0; i < MOST_KEYS; i++) {
                Node node = nodeAt(i);
                if (node != null) {
                    for (int shift = 0; shift < 32; shift += 8) {
                        check = Checks.withSign(check, node.key >>> shift);
                    }
                    check = Checks.withSign(check, node.value);
                }
            }
            return check;
        }

        boolean isInOrder() {
            Node before = null;
            for (int i = 0; i < held(); i++) {
                Node node = nodeAt(i);
                if (node == null || !standsRight(node) || before != null && before.key >= node.key) {
                    return false;
                }
                before = node;
            }
            return nodeAt(held()) == null;
        }

        private static boolean standsRight(Node node) {
            return node.count == countOf(node.less) + countOf(node.more) + 1
                && (node.less == null || node.less.drawn <= node.drawn)
                && (node.more == null || node.more.drawn <= node.drawn);
        }
    }
}
