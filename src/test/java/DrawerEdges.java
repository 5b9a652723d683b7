import java.util.Arrays;
import java.util.TreeSet;

/** The boundaries of promises 17 to 28: drawers, how often they are asked, and what they are asked for. */
final class DrawerEdges {
    private static final String NO_DRAWER = "Throws `IndexOutOfBoundsException` if there is no such drawer";
    private static final String NO_TEXT_OR_DRAWER = "Throws `IndexOutOfBoundsException` if there is no such text or drawer";
    private static final String A_NUMBER = "Throws `IllegalArgumentException` if a number is out of range";
    private static final String THE_NUMBER = "Throws `IllegalArgumentException` if the number is out of range";
    private static final String SPLITTING = "Throws `UnsupportedOperationException` if its way has a splitting";
    private static final String TOO_OFTEN = "Throws `IllegalStateException` if the drawer would be asked more than 400 times";
    private static final String[] SPLIT_WAYS = {"a mother", "a split one", "one split to itself", "one that was selected by"};
    private static final String[] ASKING_ONCE = {"odd", "split", "below", "between", "select", "put", "alike", "longs", "truths", "shuffle"};
    private static final int OF_ANY_WAY = 6;

    static void test() {
        make();
        split();
        splitAsks();
        again();
        asked();
        isSameWay();
        alike();
        alikeWays();
        alikeAsks();
        below();
        between();
        longs();
        truths();
        shuffle();
        shuffleAsks();
        select();
        selectAsks();
        fourHundred();
        fourHundredOfSplitWays();
    }

    /** A drawer 0 that was asked so often. */
    private static Edge.Scene one(int asked) {
        return Edge.drawer(0, asked);
    }

    /** The drawers 0 and 1 of one way. */
    private static Edge.Scene two(int asked) {
        return one(asked).and(Edge.drawer(1, asked));
    }

    /** A drawer 0 of a way with a splitting, so often asked, of the kinds that SPLIT_WAYS tells. */
    private static Edge.Scene splitWay(int kind, int asked) {
        Edge.Scene before = Edge.bytes(5, 3);
        switch (kind) {
            case 0: return before.and(Edge.motherAndSplit(0, 2, asked));
            case 1: return before.and(Edge.motherAndSplit(2, 0, asked));
            case 2: return before.and(Edge.motherAndSplit(0, 0, asked));
            default: return before.and(one(asked - 1)).and(x -> x.select(5, 0, 0));
        }
    }

    private static void make() {
        Document.says(17, "Throws `IndexOutOfBoundsException` if the drawer is not 0 to 5");
        Edge.range(two(3), Edge.INDEX, 0, 5, "make of the drawer", (x, n) -> x.make(n, 1, 2));
        Document.says(17, "in place of one that is there", "Returns whether there was one.");
        for (int drawer = 0; drawer < 6; drawer++) {
            int d = drawer;
            Edge.answers(Edge.NEW, "make of the drawer " + d, x -> x.make(d, 1, 2) + " " + x.asked(d), "false 0");
            Edge.answers(Edge.drawer(d, 0), "make in place of one that was not asked", x -> x.make(d, 1, 2) + " " + x.asked(d), "true 0");
            Edge.answers(Edge.drawer(d, 400), "make in place of one that was asked 400 times", x -> x.make(d, 1, 2) + " " + x.asked(d), "true 0");
        }
        for (int kind = 0; kind < SPLIT_WAYS.length; kind++) {
            Edge.answers(splitWay(kind, 400), "make in place of " + SPLIT_WAYS[kind], x -> x.make(0, 1, 2) + " " + x.longs(0, 50), "true 50");
        }
        int[] halves = {Edge.LEAST, -1, 0, 1, Edge.GREATEST};
        for (int high : halves) {
            for (int low : halves) {
                Edge.answers(x -> x.make(0, high, low), "a drawer of one seed", x -> x.make(1, high, low) + " " + x.isSameWay(0, 1) + " " + x.alike(0, 1, 50), "false true 50");
                Edge.answers(x -> x.make(0, high, low), "a drawer of another upper half", x -> x.make(1, high ^ Edge.LEAST, low) + " " + x.isSameWay(0, 1), "false false");
                Edge.answers(x -> x.make(0, high, low), "a drawer of another lower half", x -> x.make(1, high, low ^ Edge.LEAST) + " " + x.isSameWay(0, 1), "false false");
            }
        }
    }

    private static void split() {
        Document.says(18, "Throws `IndexOutOfBoundsException` if there is no such drawer, or the other one is not 0 to 5");
        Edge.range(Edge.everyDrawer(3), Edge.INDEX, 0, 5, "split of the drawer", (x, n) -> x.split(n, 1));
        Edge.range(two(3), Edge.INDEX, 0, 5, "split to the drawer", (x, n) -> x.split(0, n));
        for (int drawer = 2; drawer < 6; drawer++) {
            int d = drawer;
            Edge.refuses(two(3), Edge.INDEX, "split of the drawer " + d + " that is not there", x -> x.split(d, 1));
            Edge.refuses(two(3), Edge.INDEX, "split of the drawer " + d + " that is not there to itself", x -> x.split(d, d));
        }
        Document.says(18, "`to`: the one that is split from it, in place of one that is there, perhaps the drawer itself");
        Edge.answers(one(5), "split to one that is not there", x -> x.split(0, 1) + " " + x.asked(0) + " " + x.asked(1), "6 6 6");
        Edge.answers(one(5).and(Edge.drawer(1, 400)), "split in place of one that is there", x -> x.split(0, 1) + " " + x.asked(0) + " " + x.asked(1), "6 6 6");
        Edge.answers(one(5), "split to itself", x -> x.split(0, 0) + " " + x.asked(0), "6 6");
        Edge.answers(two(5).and(x -> x.split(1, 2)), "split to itself is the split one", x -> x.split(0, 0) + " " + x.isSameWay(0, 2) + " " + x.isSameWay(0, 1), "6 true false");
        Document.says(18, "Returns how often that one was asked, its mother's way and the splitting counted.");
        Edge.answers(one(0), "split of one that was not asked", x -> x.split(0, 1) + " " + x.asked(0) + " " + x.asked(1), "1 1 1");
        Edge.answers(one(0).and(x -> x.split(0, 1)), "split of a split one", x -> x.split(1, 2) + " " + x.asked(0) + " " + x.asked(1), "2 1 2");
        Edge.answers(one(0).and(x -> x.split(0, 1)), "split of a mother", x -> x.split(0, 2) + " " + x.asked(0) + " " + x.asked(1), "2 2 1");
    }

    private static void splitAsks() {
        Document.says(18, "Throws `IllegalStateException` if it was asked 400 times");
        Edge.answers(one(398), "split at 398", x -> x.split(0, 1) + " " + x.asked(0) + " " + x.asked(1), "399 399 399");
        Edge.answers(one(399), "split at 399", x -> x.split(0, 1) + " " + x.asked(0) + " " + x.asked(1), "400 400 400");
        Edge.answers(one(399), "split at 399 to itself", x -> x.split(0, 0) + " " + x.asked(0), "400 400");
        Edge.refuses(one(400), Edge.STATE, "split at 400", x -> x.split(0, 1));
        Edge.refuses(one(400), Edge.STATE, "split at 400 to itself", x -> x.split(0, 0));
        Edge.refuses(one(400).and(Edge.drawer(1, 3)), Edge.STATE, "split at 400 in place of one that is there", x -> x.split(0, 1));
        Document.saysFirst(18);
        Edge.refuses(one(400), Edge.INDEX, "split at 400 to no drawer", x -> x.split(0, 6));
        Edge.refuses(one(400), Edge.INDEX, "split at 400 to a drawer below 0", x -> x.split(0, -1));
    }

    private static void again() {
        Document.says(19, "Throws `IndexOutOfBoundsException` if there is no such other one, or the drawer is not 0 to 5");
        Edge.range(Edge.everyDrawer(3), Edge.INDEX, 0, 5, "again of the drawer", (x, n) -> x.again(n, 1));
        Edge.range(two(3), Edge.INDEX, 0, 5, "again to the drawer", (x, n) -> x.again(0, n));
        for (int drawer = 2; drawer < 6; drawer++) {
            int d = drawer;
            Edge.refuses(two(3), Edge.INDEX, "again of the drawer " + d + " that is not there", x -> x.again(d, 1));
            Edge.refuses(two(3), Edge.INDEX, "again of the drawer " + d + " that is not there to itself", x -> x.again(d, d));
        }
        Document.says(19, "`to`: the drawer, in place of one that is there", "Returns how often it was asked.");
        for (int asked : new int[] {0, 1, 350, 400}) {
            String want = asked + " " + asked + " true";
            Edge.answers(one(asked), "again at " + asked + " to one that is not there", x -> x.again(0, 5) + " " + x.asked(5) + " " + x.isSameWay(0, 5), want);
            Edge.answers(one(asked).and(Edge.drawer(5, 7)), "again at " + asked + " in place of one that is there", x -> x.again(0, 5) + " " + x.asked(5) + " " + x.isSameWay(0, 5), want);
            Edge.answers(two(asked), "again at " + asked + " to itself", x -> x.again(0, 0) + " " + x.asked(0) + " " + x.isSameWay(0, 1), want);
            Edge.answers(one(asked).and(Edge.motherAndSplit(4, 5, 7)), "again at " + asked + " in place of a split one", x -> x.again(0, 5) + " " + x.asked(5) + " " + x.isSameWay(0, 5), want);
        }
        Edge.answers(one(350).and(x -> x.again(0, 5)), "alike of a drawer and one made anew", x -> x.alike(0, 5, 50), 50);
        Edge.answers(one(0).and(x -> x.again(0, 5)), "alike of a drawer that was not asked and one made anew", x -> x.alike(0, 5, 50), 50);
        Document.says(19, SPLITTING);
        for (int kind = 0; kind < SPLIT_WAYS.length; kind++) {
            for (int asked : new int[] {1, 400}) {
                Edge.refuses(splitWay(kind, asked), Edge.UNSUPPORTED, "again of " + SPLIT_WAYS[kind], x -> x.again(0, 1));
                Edge.refuses(splitWay(kind, asked), Edge.UNSUPPORTED, "again to itself of " + SPLIT_WAYS[kind], x -> x.again(0, 0));
            }
        }
        Document.saysFirst(19);
        for (int kind = 0; kind < SPLIT_WAYS.length; kind++) {
            Edge.refuses(splitWay(kind, 3), Edge.INDEX, "again to no drawer of " + SPLIT_WAYS[kind], x -> x.again(0, 6));
            Edge.refuses(splitWay(kind, 3), Edge.INDEX, "again to a drawer below 0 of " + SPLIT_WAYS[kind], x -> x.again(0, -1));
        }
    }

    private static void asked() {
        Document.says(20, NO_DRAWER, "Returns how often, its mother's way counted.");
        Edge.range(Edge.everyDrawer(3), Edge.INDEX, 0, 5, "asked of the drawer", (x, n) -> x.asked(n));
        for (int drawer = 1; drawer < 6; drawer++) {
            int d = drawer;
            Edge.refuses(one(3), Edge.INDEX, "asked of the drawer " + d + " that is not there", x -> x.asked(d));
        }
        for (int asked : new int[] {0, 1, 399, 400}) {
            Edge.answers(one(asked), "asked at " + asked, x -> x.asked(0), asked);
        }
        for (int kind = 0; kind < SPLIT_WAYS.length; kind++) {
            Edge.answers(splitWay(kind, 1), "asked at 1 of " + SPLIT_WAYS[kind], x -> x.asked(0), 1);
            Edge.answers(splitWay(kind, 400), "asked at 400 of " + SPLIT_WAYS[kind], x -> x.asked(0), 400);
        }
    }

    private static void isSameWay() {
        Document.says(21, NO_DRAWER + ", for either");
        Edge.range(Edge.everyDrawer(3), Edge.INDEX, 0, 5, "isSameWay of the drawer", (x, n) -> x.isSameWay(n, 1));
        Edge.range(Edge.everyDrawer(3), Edge.INDEX, 0, 5, "isSameWay with the drawer", (x, n) -> x.isSameWay(1, n));
        for (int drawer = 1; drawer < 6; drawer++) {
            int d = drawer;
            Edge.refuses(one(3), Edge.INDEX, "isSameWay of the drawer " + d + " that is not there", x -> x.isSameWay(d, 0));
            Edge.refuses(one(3), Edge.INDEX, "isSameWay with the drawer " + d + " that is not there", x -> x.isSameWay(0, d));
            Edge.refuses(one(3), Edge.INDEX, "isSameWay of the drawer " + d + " that is not there with itself", x -> x.isSameWay(d, d));
        }
        Document.says(21, "Returns whether they did.");
        for (int asked : new int[] {0, 1, 399, 400}) {
            Edge.answers(two(asked), "isSameWay at " + asked, x -> x.isSameWay(0, 1), true);
            Edge.answers(two(asked), "isSameWay of one with itself at " + asked, x -> x.isSameWay(0, 0), true);
        }
        Edge.answers(one(399).and(Edge.drawer(1, 400)), "isSameWay at 399 and 400", x -> x.isSameWay(0, 1), false);
        Edge.answers(one(400).and(Edge.drawer(1, 399)), "isSameWay at 400 and 399", x -> x.isSameWay(0, 1), false);
        Edge.answers(one(0).and(Edge.drawer(1, 1)), "isSameWay at 0 and 1", x -> x.isSameWay(0, 1), false);
        Edge.Scene last = two(399).and(x -> x.below(0, 5, 1));
        Edge.answers(last, "isSameWay of two whose last asking is one", x -> x.below(1, 5, 1) + " " + x.isSameWay(0, 1), "1 true");
        Edge.answers(last, "isSameWay of two whose last asking has other bounds", x -> x.below(1, 6, 1) + " " + x.isSameWay(0, 1), "1 false");
        Edge.Scene betweenLast = two(399).and(x -> x.between(0, -5, 5, 1));
        Edge.answers(betweenLast, "isSameWay of two whose last asking is between the same", x -> x.between(1, -5, 5, 1) + " " + x.isSameWay(0, 1), "1 true");
        Edge.answers(betweenLast, "isSameWay of two whose last asking has another lower bound", x -> x.between(1, -4, 5, 1) + " " + x.isSameWay(0, 1), "1 false");
        Edge.answers(betweenLast, "isSameWay of two whose last asking has another upper bound", x -> x.between(1, -5, 6, 1) + " " + x.isSameWay(0, 1), "1 false");
        Edge.answers(betweenLast.and(x -> x.again(0, 2)), "isSameWay of it and one made anew", x -> x.isSameWay(2, 0), true);
        Edge.answers(last, "isSameWay of two whose last asking is another one", x -> x.between(1, 0, 5, 1) + " " + x.isSameWay(0, 1), "1 false");
        Edge.Scene unlikeFirst = two(0).and(x -> x.below(0, 5, 1)).and(x -> x.below(1, 6, 1));
        Edge.answers(unlikeFirst.and(x -> x.below(0, 5, 9)).and(x -> x.below(1, 5, 9)), "isSameWay of two whose first asking has other bounds", x -> x.isSameWay(0, 1), false);
    }

    private static void alike() {
        Document.says(22, NO_DRAWER + ", for either");
        Edge.range(Edge.everyDrawer(3), Edge.INDEX, 0, 5, "alike of the drawer", (x, n) -> x.alike(n, n == 0 ? 1 : 0, 1));
        Edge.range(Edge.everyDrawer(3), Edge.INDEX, 0, 5, "alike with the drawer", (x, n) -> x.alike(n == 0 ? 1 : 0, n, 1));
        for (int drawer = 2; drawer < 6; drawer++) {
            int d = drawer;
            Edge.refuses(two(3), Edge.INDEX, "alike of the drawer " + d + " that is not there", x -> x.alike(d, 0, 1));
            Edge.refuses(two(3), Edge.INDEX, "alike with the drawer " + d + " that is not there", x -> x.alike(0, d, 1));
        }
        Document.says(22, "`many`: for how many, each, 1 to 50", "Throws `IllegalArgumentException` if both are the same, or the number is out of range");
        Edge.range(two(3), Edge.ARGUMENT, 1, 50, "alike, many", (x, n) -> x.alike(0, 1, n));
        Edge.answers(two(3), "alike of 1", x -> x.alike(0, 1, 1) + " " + x.asked(0) + " " + x.asked(1), "1 4 4");
        Edge.answers(two(3), "alike of 50", x -> x.alike(1, 0, 50) + " " + x.asked(0) + " " + x.asked(1), "50 53 53");
        Edge.refuses(two(3), Edge.ARGUMENT, "alike of one with itself", x -> x.alike(0, 0, 1));
        Edge.refuses(two(3), Edge.ARGUMENT, "alike of another one with itself", x -> x.alike(1, 1, 1));
    }

    private static void alikeWays() {
        Document.says(22, "Throws `UnsupportedOperationException` if they did not come by one way, or it has a splitting");
        Edge.refuses(one(3).and(Edge.drawer(1, 4)), Edge.UNSUPPORTED, "alike of one that was asked more", x -> x.alike(0, 1, 1));
        Edge.refuses(one(3).and(Edge.drawer(1, 4)), Edge.UNSUPPORTED, "alike of one that was asked less", x -> x.alike(1, 0, 1));
        Edge.refuses(one(0).and(x -> x.make(1, 7, -8)), Edge.UNSUPPORTED, "alike of two seeds", x -> x.alike(0, 1, 1));
        Edge.refuses(two(3).and(x -> x.below(0, 5, 1)).and(x -> x.below(1, 6, 1)), Edge.UNSUPPORTED, "alike of two bounds", x -> x.alike(0, 1, 1));
        Edge.refuses(two(3).and(x -> x.below(0, 5, 1)).and(x -> x.between(1, 0, 5, 1)), Edge.UNSUPPORTED, "alike of two kinds of bounds", x -> x.alike(0, 1, 1));
        Edge.refuses(two(3).and(x -> x.split(0, 2)), Edge.UNSUPPORTED, "alike of a mother and another one", x -> x.alike(0, 1, 1));
        Edge.refuses(two(3).and(x -> x.split(0, 2)), Edge.UNSUPPORTED, "alike of a mother and the one split from it", x -> x.alike(0, 2, 1));
        Edge.Scene both = two(3).and(x -> x.split(0, 2)).and(x -> x.split(1, 3));
        Edge.answers(both, "isSameWay of both mothers, of both split ones", x -> x.isSameWay(0, 1) + " " + x.isSameWay(2, 3), "true true");
        Edge.refuses(both, Edge.UNSUPPORTED, "alike of two mothers of one way", x -> x.alike(0, 1, 1));
        Edge.refuses(both, Edge.UNSUPPORTED, "alike of two split ones of one way", x -> x.alike(2, 3, 1));
        Edge.Scene later = both.and(x -> x.below(0, 5, 9)).and(x -> x.below(1, 5, 9)).and(x -> x.below(2, 5, 9)).and(x -> x.below(3, 5, 9));
        Edge.refuses(later, Edge.UNSUPPORTED, "alike of two mothers that were asked since", x -> x.alike(0, 1, 1));
        Edge.refuses(later, Edge.UNSUPPORTED, "alike of two split ones that were asked since", x -> x.alike(2, 3, 1));
    }

    private static void alikeAsks() {
        Document.says(22, TOO_OFTEN);
        Edge.answers(two(399), "alike of 1 at 399", x -> x.alike(0, 1, 1) + " " + x.asked(0) + " " + x.asked(1), "1 400 400");
        Edge.refuses(two(400), Edge.STATE, "alike of 1 at 400", x -> x.alike(0, 1, 1));
        Edge.refuses(two(399), Edge.STATE, "alike of 2 at 399", x -> x.alike(0, 1, 2));
        Edge.answers(two(350), "alike of 50 at 350", x -> x.alike(0, 1, 50) + " " + x.asked(0) + " " + x.asked(1), "50 400 400");
        Edge.refuses(two(351), Edge.STATE, "alike of 50 at 351", x -> x.alike(0, 1, 50));
        Document.saysFirst(22);
        Edge.refuses(one(400), Edge.INDEX, "alike of one that is not there with itself", x -> x.alike(1, 1, 1));
        Edge.refuses(one(400), Edge.INDEX, "alike of 51 with one that is not there", x -> x.alike(0, 1, 51));
        Edge.refuses(one(400), Edge.INDEX, "alike of 0 of no drawer with itself", x -> x.alike(6, 6, 0));
        Edge.refuses(splitWay(0, 400), Edge.INDEX, "alike of a mother at 400 with no drawer", x -> x.alike(0, 6, 1));
        Edge.refuses(one(400).and(Edge.drawer(1, 3)), Edge.ARGUMENT, "alike of 0 of two ways at 400", x -> x.alike(0, 1, 0));
        Edge.refuses(one(400).and(Edge.drawer(1, 3)), Edge.ARGUMENT, "alike of 51 of two ways at 400", x -> x.alike(0, 1, 51));
        Edge.refuses(two(400), Edge.ARGUMENT, "alike of 51 at 400", x -> x.alike(0, 1, 51));
        Edge.refuses(two(400), Edge.ARGUMENT, "alike of one with itself at 400", x -> x.alike(0, 0, 1));
        Edge.refuses(splitWay(0, 400), Edge.ARGUMENT, "alike of a mother with itself at 400", x -> x.alike(0, 0, 1));
        Edge.refuses(splitWay(1, 3), Edge.ARGUMENT, "alike of 0 of a split one and its mother", x -> x.alike(0, 2, 0));
        Edge.refuses(one(400).and(Edge.drawer(1, 3)), Edge.UNSUPPORTED, "alike of two ways at 400", x -> x.alike(0, 1, 1));
        Edge.refuses(Edge.motherAndSplit(0, 1, 400).and(Edge.motherAndSplit(2, 3, 400)), Edge.UNSUPPORTED, "alike of two mothers at 400", x -> x.alike(0, 2, 1));
        Edge.refuses(Edge.motherAndSplit(0, 1, 400).and(Edge.motherAndSplit(2, 3, 400)), Edge.UNSUPPORTED, "alike of two split ones at 400", x -> x.alike(1, 3, 50));
    }

    private static void below() {
        Document.says(23, NO_DRAWER);
        Edge.range(Edge.everyDrawer(3), Edge.INDEX, 0, 5, "below by the drawer", (x, n) -> x.below(n, 5, 1));
        Edge.refuses(one(3), Edge.INDEX, "below by one that is not there", x -> x.below(1, 5, 1));
        Document.says(23, "`bound`: the bound, above 0", A_NUMBER);
        Edge.range(one(3), Edge.ARGUMENT, 1, Edge.GREATEST, "below, the bound", (x, n) -> x.below(0, n, 1));
        Document.says(23, "`many`: for how many, 1 to 50", "Returns how many were from 0 on, and below it.");
        Edge.range(one(3), Edge.ARGUMENT, 1, 50, "below, many", (x, n) -> x.below(0, 5, n));
        for (int bound : new int[] {1, 2, 3, 1 << 30, (1 << 30) + 1, Edge.GREATEST - 1, Edge.GREATEST}) {
            Edge.answers(one(3), "below " + bound + ", 1", x -> x.below(0, bound, 1) + " " + x.asked(0), "1 4");
            Edge.answers(one(3), "below " + bound + ", 50", x -> x.below(0, bound, 50) + " " + x.asked(0), "50 53");
        }
        Document.says(23, TOO_OFTEN);
        Edge.answers(one(399), "below, 1, at 399", x -> x.below(0, 5, 1) + " " + x.asked(0), "1 400");
        Edge.refuses(one(400), Edge.STATE, "below, 1, at 400", x -> x.below(0, 5, 1));
        Edge.refuses(one(399), Edge.STATE, "below, 2, at 399", x -> x.below(0, 5, 2));
        Edge.answers(one(350), "below, 50, at 350", x -> x.below(0, 5, 50) + " " + x.asked(0), "50 400");
        Edge.refuses(one(351), Edge.STATE, "below, 50, at 351", x -> x.below(0, 5, 50));
        Document.saysFirst(23);
        Edge.refuses(one(400), Edge.INDEX, "below 0 by one that is not there", x -> x.below(1, 0, 1));
        Edge.refuses(one(400), Edge.INDEX, "below, 51, by no drawer", x -> x.below(6, 5, 51));
        Edge.refuses(one(400), Edge.ARGUMENT, "below 0 at 400", x -> x.below(0, 0, 1));
        Edge.refuses(one(400), Edge.ARGUMENT, "below, 0, at 400", x -> x.below(0, 5, 0));
        Edge.refuses(one(400), Edge.ARGUMENT, "below, 51, at 400", x -> x.below(0, 5, 51));
    }

    private static void between() {
        Document.says(24, NO_DRAWER);
        Edge.range(Edge.everyDrawer(3), Edge.INDEX, 0, 5, "between by the drawer", (x, n) -> x.between(n, 2, 5, 1));
        Edge.refuses(one(3), Edge.INDEX, "between by one that is not there", x -> x.between(1, 2, 5, 1));
        Document.says(24, "`to`: the upper one, above that", A_NUMBER);
        for (int from : new int[] {Edge.LEAST, Edge.LEAST + 1, -2, -1, 0, 1, Edge.GREATEST - 1}) {
            Edge.range(one(3), Edge.ARGUMENT, from + 1, Edge.GREATEST, "between " + from + " and", (x, n) -> x.between(0, from, n, 1));
        }
        for (int to : new int[] {Edge.LEAST, -1, 0, 1, Edge.GREATEST}) {
            Edge.refuses(one(3), Edge.ARGUMENT, "between the greatest int and " + to, x -> x.between(0, Edge.GREATEST, to, 1));
        }
        Document.says(24, "`many`: for how many, 1 to 50", "Returns how many were from the lower one on, and below the upper one.");
        Edge.range(one(3), Edge.ARGUMENT, 1, 50, "between, many", (x, n) -> x.between(0, 2, 5, n));
        int[][] bounds = {{Edge.LEAST, Edge.LEAST + 1}, {Edge.LEAST, Edge.GREATEST}, {Edge.LEAST, 0}, {-1, 0}, {-1, Edge.GREATEST}, {0, 1}, {0, Edge.GREATEST}, {Edge.GREATEST - 1, Edge.GREATEST}};
        for (int[] b : bounds) {
            Edge.answers(one(3), "between " + b[0] + " and " + b[1] + ", 1", x -> x.between(0, b[0], b[1], 1) + " " + x.asked(0), "1 4");
            Edge.answers(one(3), "between " + b[0] + " and " + b[1] + ", 50", x -> x.between(0, b[0], b[1], 50) + " " + x.asked(0), "50 53");
        }
        Document.says(24, TOO_OFTEN);
        Edge.answers(one(399), "between, 1, at 399", x -> x.between(0, 2, 5, 1) + " " + x.asked(0), "1 400");
        Edge.refuses(one(400), Edge.STATE, "between, 1, at 400", x -> x.between(0, 2, 5, 1));
        Edge.refuses(one(399), Edge.STATE, "between, 2, at 399", x -> x.between(0, 2, 5, 2));
        Edge.answers(one(350), "between, 50, at 350", x -> x.between(0, 2, 5, 50) + " " + x.asked(0), "50 400");
        Edge.refuses(one(351), Edge.STATE, "between, 50, at 351", x -> x.between(0, 2, 5, 50));
        Document.saysFirst(24);
        Edge.refuses(one(400), Edge.INDEX, "between 5 and 5 by one that is not there", x -> x.between(1, 5, 5, 1));
        Edge.refuses(one(400), Edge.INDEX, "between, 51, by no drawer", x -> x.between(6, 2, 5, 51));
        Edge.refuses(one(400), Edge.ARGUMENT, "between 5 and 5 at 400", x -> x.between(0, 5, 5, 1));
        Edge.refuses(one(400), Edge.ARGUMENT, "between, 0, at 400", x -> x.between(0, 2, 5, 0));
        Edge.refuses(one(400), Edge.ARGUMENT, "between, 51, at 400", x -> x.between(0, 2, 5, 51));
    }

    private static void longs() {
        twins(25, "longs", (x, drawer, many) -> x.longs(drawer, many));
    }

    private static void truths() {
        twins(26, "truths", (x, drawer, many) -> x.truths(drawer, many));
    }

    private interface TwinCall {
        int on(Checkdraw x, int drawer, int many);
    }

    /** Promises 25 and 26 say the same of boundaries. */
    private static void twins(int promise, String name, TwinCall call) {
        Document.says(promise, NO_DRAWER);
        Edge.range(Edge.everyDrawer(3), Edge.INDEX, 0, 5, name + " by the drawer", (x, n) -> call.on(x, n, 1));
        Edge.refuses(one(3), Edge.INDEX, name + " by one that is not there", x -> call.on(x, 1, 1));
        Document.says(promise, "`many`: for how many, each, 1 to 50", THE_NUMBER);
        Edge.range(one(3), Edge.ARGUMENT, 1, 50, name + ", many", (x, n) -> call.on(x, 0, n));
        Edge.answers(one(0), name + " of 1", x -> call.on(x, 0, 1) + " " + x.asked(0), "1 1");
        Edge.answers(one(3), name + " of 50", x -> call.on(x, 0, 50) + " " + x.asked(0), "50 53");
        Document.says(promise, SPLITTING);
        for (int kind = 0; kind < SPLIT_WAYS.length; kind++) {
            Edge.refuses(splitWay(kind, 1), Edge.UNSUPPORTED, name + " by " + SPLIT_WAYS[kind], x -> call.on(x, 0, 1));
            Edge.refuses(splitWay(kind, 30).and(x -> x.below(0, 5, 1)), Edge.UNSUPPORTED, name + " by, asked since, " + SPLIT_WAYS[kind], x -> call.on(x, 0, 50));
        }
        Document.says(promise, TOO_OFTEN);
        Edge.answers(one(399), name + " of 1 at 399", x -> call.on(x, 0, 1) + " " + x.asked(0), "1 400");
        Edge.refuses(one(400), Edge.STATE, name + " of 1 at 400", x -> call.on(x, 0, 1));
        Edge.refuses(one(399), Edge.STATE, name + " of 2 at 399", x -> call.on(x, 0, 2));
        Edge.answers(one(350), name + " of 50 at 350", x -> call.on(x, 0, 50) + " " + x.asked(0), "50 400");
        Edge.refuses(one(351), Edge.STATE, name + " of 50 at 351", x -> call.on(x, 0, 50));
        Document.saysFirst(promise);
        Edge.refuses(one(400), Edge.INDEX, name + " of 0 by one that is not there", x -> call.on(x, 1, 0));
        Edge.refuses(one(400), Edge.INDEX, name + " of 51 by no drawer", x -> call.on(x, 6, 51));
        Edge.refuses(one(400), Edge.ARGUMENT, name + " of 0 at 400", x -> call.on(x, 0, 0));
        Edge.refuses(one(400), Edge.ARGUMENT, name + " of 51 at 400", x -> call.on(x, 0, 51));
        for (int kind = 0; kind < SPLIT_WAYS.length; kind++) {
            Edge.refuses(splitWay(kind, 3), Edge.ARGUMENT, name + " of 0 by " + SPLIT_WAYS[kind], x -> call.on(x, 0, 0));
            Edge.refuses(splitWay(kind, 400), Edge.ARGUMENT, name + " of 51 by " + SPLIT_WAYS[kind], x -> call.on(x, 0, 51));
            Edge.refuses(splitWay(kind, 400), Edge.UNSUPPORTED, name + " at 400 by " + SPLIT_WAYS[kind], x -> call.on(x, 0, 1));
        }
    }

    private static void shuffle() {
        Document.says(27, NO_TEXT_OR_DRAWER);
        Edge.Scene all = Edge.everyText(3).and(Edge.everyDrawer(3));
        Edge.range(all, Edge.INDEX, 0, 5, "shuffle of the text", (x, n) -> x.shuffle(n, 0));
        Edge.range(all, Edge.INDEX, 0, 5, "shuffle by the drawer", (x, n) -> x.shuffle(0, n));
        Edge.refuses(Edge.bytes(0, 3).and(one(3)), Edge.INDEX, "shuffle by one that is not there", x -> x.shuffle(0, 1));
        Document.says(27, "for each place but the last one the drawer is asked for a number from the place up to how many bytes there are, without that",
            "the text stays as it was", "Returns how many places have then what they had.");
        for (int many : new int[] {0, 1, 2, 3, 119, 120}) {
            String asked = " " + Math.max(0, many - 1);
            Edge.answers(Edge.bytes(0, many).and(one(0)), "shuffle of " + many + " bytes", x -> x.shuffle(0, 0) + " " + x.asked(0), many + asked);
            Edge.answers(Edge.bytes(0, many).and(one(0)).and(x -> x.shuffle(0, 0)), "the bytes after it", x -> Arrays.toString(Due.bytesOf(x, 0)), Arrays.toString(Due.filled(many)));
            Edge.answers(Edge.bytes(0, many).and(two(0)).and(x -> x.shuffle(0, 0)), "the way after it", x -> {
                for (int place = 0; place < many - 1; place++) {
                    x.between(1, place, many, 1);
                }
                return x.isSameWay(0, 1) + " " + x.alike(0, 1, 9);
            }, "true 9");
        }
        Document.says(27, "Throws `UnsupportedOperationException` if the drawer's way has a splitting");
        for (int kind = 0; kind < SPLIT_WAYS.length; kind++) {
            for (int many : new int[] {0, 1, 2, 120}) {
                Edge.refuses(Edge.bytes(0, many).and(splitWay(kind, 1)), Edge.UNSUPPORTED, "shuffle of " + many + " bytes by " + SPLIT_WAYS[kind], x -> x.shuffle(0, 0));
            }
        }
    }

    private static void shuffleAsks() {
        Document.says(27, TOO_OFTEN);
        Edge.answers(Edge.bytes(0, 120).and(one(281)), "shuffle of 120 bytes at 281", x -> x.shuffle(0, 0) + " " + x.asked(0), "120 400");
        Edge.refuses(Edge.bytes(0, 120).and(one(282)), Edge.STATE, "shuffle of 120 bytes at 282", x -> x.shuffle(0, 0));
        Edge.answers(Edge.bytes(0, 119).and(one(282)), "shuffle of 119 bytes at 282", x -> x.shuffle(0, 0) + " " + x.asked(0), "119 400");
        Edge.answers(Edge.bytes(0, 2).and(one(399)), "shuffle of 2 bytes at 399", x -> x.shuffle(0, 0) + " " + x.asked(0), "2 400");
        Edge.refuses(Edge.bytes(0, 3).and(one(399)), Edge.STATE, "shuffle of 3 bytes at 399", x -> x.shuffle(0, 0));
        Edge.refuses(Edge.bytes(0, 2).and(one(400)), Edge.STATE, "shuffle of 2 bytes at 400", x -> x.shuffle(0, 0));
        Edge.answers(Edge.bytes(0, 1).and(one(400)), "shuffle of 1 byte at 400", x -> x.shuffle(0, 0) + " " + x.asked(0), "1 400");
        Edge.answers(Edge.bytes(0, 0).and(one(400)), "shuffle of no byte at 400", x -> x.shuffle(0, 0) + " " + x.asked(0), "0 400");
        Document.saysFirst(27);
        Edge.refuses(Edge.bytes(0, 3).and(one(400)), Edge.INDEX, "shuffle of no text at 400", x -> x.shuffle(6, 0));
        Edge.refuses(Edge.bytes(0, 3).and(one(400)), Edge.INDEX, "shuffle by one that is not there", x -> x.shuffle(0, 1));
        for (int kind = 0; kind < SPLIT_WAYS.length; kind++) {
            Edge.refuses(splitWay(kind, 400), Edge.INDEX, "shuffle of no text by " + SPLIT_WAYS[kind], x -> x.shuffle(-1, 0));
            Edge.refuses(splitWay(kind, 400), Edge.UNSUPPORTED, "shuffle at 400 by " + SPLIT_WAYS[kind], x -> x.shuffle(5, 0));
        }
    }

    private static void select() {
        Document.says(28, NO_TEXT_OR_DRAWER);
        Edge.Scene all = Edge.everyText(3).and(Edge.everyDrawer(3));
        Edge.range(all, Edge.INDEX, 0, 5, "select in the text", (x, n) -> x.select(n, 0, 0));
        Edge.range(all, Edge.INDEX, 0, 5, "select by the drawer", (x, n) -> x.select(0, 0, n));
        Edge.refuses(Edge.bytes(0, 3).and(one(3)), Edge.INDEX, "select by one that is not there", x -> x.select(0, 0, 1));
        Document.says(28, "Throws `NoSuchElementException` if there are not so many", "`index`: how many bytes, by their values, are ahead of it");
        for (int many : new int[] {1, 2, 119, 120}) {
            Edge.range(Edge.bytes(0, many).and(one(3)), Edge.NO_SUCH, 0, many - 1, "select in " + many + " bytes, the rank", (x, n) -> x.select(0, n, 0));
            byte[] row = Due.filled(many);
            TreeSet<Integer> sorted = new TreeSet<>();
            for (byte sign : row) {
                sorted.add(sign & 255);
            }
            Edge.answers(Edge.bytes(0, many).and(one(3)), "select of the least of " + many + " bytes", x -> x.select(0, 0, 0) + " " + x.asked(0), sorted.first() + " 4");
            Edge.answers(Edge.bytes(0, many).and(one(3)), "select of the greatest of " + many + " bytes", x -> x.select(0, many - 1, 0) + " " + x.asked(0), sorted.last() + " 4");
        }
        for (int index : new int[] {-1, 0, 1, 119, 120, Edge.LEAST, Edge.GREATEST}) {
            Edge.refuses(Edge.bytes(5, 3).and(one(3)), Edge.NO_SUCH, "select in an empty text, the rank " + index, x -> x.select(0, index, 0));
        }
        Document.says(28, "the one that is split from it, which is no longer there then", "as often as it needs, which is not counted");
        for (int drawer = 1; drawer < 6; drawer++) {
            int d = drawer;
            Edge.refuses(Edge.bytes(0, 120).and(one(3)).and(x -> x.select(0, 60, 0)), Edge.INDEX, "asked of the drawer " + d + " after select", x -> x.asked(d));
        }
        Edge.answers(Edge.bytes(0, 120).and(two(3)).and(x -> x.select(0, 60, 0)), "select and split are one asking", x -> x.split(1, 2) + " " + x.asked(0) + " " + x.isSameWay(0, 1), "4 4 true");
    }

    private static void selectAsks() {
        Document.says(28, "Throws `IllegalStateException` if the drawer was asked 400 times");
        Edge.answers(Edge.bytes(0, 120).and(one(399)), "select at 399", x -> x.select(0, 0, 0) + " " + x.asked(0), "1 400");
        Edge.refuses(Edge.bytes(0, 120).and(one(400)), Edge.STATE, "select at 400", x -> x.select(0, 0, 0));
        Edge.refuses(Edge.bytes(0, 1).and(one(400)), Edge.STATE, "select of the one byte at 400", x -> x.select(0, 0, 0));
        for (int kind = 0; kind < SPLIT_WAYS.length; kind++) {
            Edge.answers(splitWay(kind, 399), "select at 399 by " + SPLIT_WAYS[kind], x -> x.select(5, 0, 0) + " " + x.asked(0), "11 400");
            Edge.refuses(splitWay(kind, 400), Edge.STATE, "select at 400 by " + SPLIT_WAYS[kind], x -> x.select(5, 0, 0));
        }
        Document.saysFirst(28);
        Edge.refuses(Edge.bytes(0, 3).and(one(400)), Edge.INDEX, "select in no text, the rank -1, at 400", x -> x.select(6, -1, 0));
        Edge.refuses(Edge.bytes(0, 3).and(one(400)), Edge.INDEX, "select in no text at 400", x -> x.select(-1, 0, 0));
        Edge.refuses(Edge.bytes(0, 3).and(one(400)), Edge.INDEX, "select by one that is not there, the rank 3", x -> x.select(0, 3, 1));
        Edge.refuses(Edge.bytes(0, 3).and(one(400)), Edge.NO_SUCH, "select of the rank 3 of 3 at 400", x -> x.select(0, 3, 0));
        Edge.refuses(Edge.bytes(0, 3).and(one(400)), Edge.NO_SUCH, "select of the rank -1 at 400", x -> x.select(0, -1, 0));
    }

    /** Each of these asks the drawer 0 once; the first six by a way with a splitting, too. */
    private static Object askOnce(Checkdraw x, int kind) {
        switch (kind) {
            case 0: return x.odd(5, 0, 1, 1);
            case 1: return x.split(0, 3);
            case 2: return x.below(0, 5, 1);
            case 3: return x.between(0, 0, 5, 1);
            case 4: return x.select(5, 0, 0);
            case 5: return x.put(0, 5, 5, 0);
            case 6: return x.alike(0, 1, 1);
            case 7: return x.longs(0, 1);
            case 8: return x.truths(0, 1);
            default: return x.shuffle(5, 0);
        }
    }

    private static void fourHundred() {
        Document.says(Document.TERMS, "A drawer is asked at most 400 times in all", "what asks for more is refused, and nothing is drawn.");
        Edge.Scene text = Edge.bytes(5, 2);
        for (int kind = 0; kind < ASKING_ONCE.length; kind++) {
            int k = kind;
            String call = ASKING_ONCE[kind];
            Edge.answers(two(398).and(text), call + " at 398", x -> askOnce(x, k) == null ? 0 : x.asked(0), 399);
            Edge.answers(two(399).and(text), call + " at 399", x -> askOnce(x, k) == null ? 0 : x.asked(0), 400);
            Edge.refuses(two(400).and(text), Edge.STATE, call + " at 400", x -> askOnce(x, k));
            Edge.refuses(two(399).and(text).and(x -> askOnce(x, k)), Edge.STATE, "below after " + call + " at 399", x -> x.below(0, 5, 1));
        }
    }

    private static void fourHundredOfSplitWays() {
        Document.says(Document.TERMS, "those of its mother's way counted");
        for (int way = 0; way < SPLIT_WAYS.length; way++) {
            for (int kind = 0; kind < OF_ANY_WAY; kind++) {
                int k = kind;
                String call = ASKING_ONCE[kind] + " by " + SPLIT_WAYS[way];
                Edge.answers(splitWay(way, 399), call + " at 399", x -> askOnce(x, k) == null ? 0 : x.asked(0), 400);
                Edge.refuses(splitWay(way, 400), Edge.STATE, call + " at 400", x -> askOnce(x, k));
                Edge.refuses(splitWay(way, 1).and(x -> Due.askUpTo(x, 0, 400)), Edge.STATE, call + ", split when it was new, at 400", x -> askOnce(x, k));
            }
        }
    }
}
