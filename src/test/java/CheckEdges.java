import java.util.Arrays;

/** The boundaries of promises 10 to 16: checks, and changes that they see. */
final class CheckEdges {
    private static final String NO_TEXT = "Throws `IndexOutOfBoundsException` if there is no such text";
    private static final String NO_TEXT_OR_DRAWER = "Throws `IndexOutOfBoundsException` if there is no such text or drawer";
    private static final String OUT_OF_RANGE = "Throws `IllegalArgumentException` if the number is out of range";
    private static final String BEHIND = "`many`: how many bytes the second one has, 0 to 1000000";
    private static final String TOO_OFTEN = "Throws `IllegalStateException` if the drawer would be asked more than 400 times";
    private static final int[] SOME = {0, 1, -1, 0x12345678, 0x80000000, 0x7FFFFFFF};

    static void test() {
        check();
        checksAsInts();
        joined();
        firstOf();
        secondOf();
        lay();
        layWanted();
        near();
        nearAsks();
        nearOfNothingDrawn();
        odd();
        oddBits();
        oddAsks();
    }

    /** A text 0 of so many bytes, and a drawer 0 that was asked so often. */
    private static Edge.Scene of(int many, int asked) {
        return Edge.bytes(0, many).and(Edge.drawer(0, asked));
    }

    private static void textStays(int many, String call, Edge.Call asked) {
        Edge.answers(of(many, 0), "the bytes after " + call, x -> {
            asked.on(x);
            return Arrays.toString(Due.bytesOf(x, 0));
        }, Arrays.toString(Due.filled(many)));
    }

    private static void check() {
        Document.says(10, NO_TEXT);
        Edge.range(Edge.everyText(2), Edge.INDEX, 0, 5, "check of the text", (x, n) -> x.check(n));
        Document.says(10, "Returns the check, 0 to 4294967295.");
        Edge.answers(Edge.NEW, "check of an empty text", x -> x.check(0), 0L);
        Edge.answers(Edge.bytes(0, 120).and(x -> x.cut(0, 0)), "check of a text that was cut to none", x -> x.check(0), 0L);
        long[] checks = {0L, 1L, 2147483647L, 2147483648L, 4294967294L, 4294967295L};
        for (long check : checks) {
            Edge.answers(Edge.bytes(0, 4).and(x -> x.lay(0, 0, (int) check)), "check after it was laid", x -> x.check(0), check);
        }
        for (int many : new int[] {1, 2, 3, 4, 5, 119, 120}) {
            Edge.answers(Edge.bytes(0, many), "check of " + many + " bytes less the library's", x -> x.check(0) - Due.libraryCheck(Due.bytesOf(x, 0)), 0L);
        }
    }

    private static void checksAsInts() {
        Document.says(Document.TERMS, "Checks are told as ints, too, those above 2147483647 less 4294967296.");
        // The check of 123456789 is 3808858755.
        Edge.answers(Edge.NEW, "joined of a check above 2147483647", x -> x.joined(0, -486108541, 9), -486108541);
        Edge.answers(Edge.NEW, "joined of it with none behind", x -> x.joined(-486108541, 0, 0), -486108541);
        Edge.answers(Edge.NEW, "firstOf of it with none behind", x -> x.firstOf(-486108541, 0, 0), -486108541);
        Edge.answers(Edge.NEW, "secondOf of it with none ahead", x -> x.secondOf(-486108541, 0, 9), -486108541);
        Edge.Scene nine = x -> Due.write(x, 0, "123456789");
        Edge.answers(nine, "check of 123456789", x -> x.check(0), 3808858755L);
        Edge.answers(Edge.bytes(0, 4).and(x -> x.lay(0, 0, -486108541)), "check that was laid as an int", x -> x.check(0), 3808858755L);
    }

    /** The check of so many zeros, by the library, as an int. */
    private static int zeros(int many) {
        return (int) Due.libraryCheck(new byte[many]);
    }

    private static void joined() {
        Document.says(11, BEHIND, OUT_OF_RANGE);
        Edge.range(Edge.drawer(0, 1), Edge.ARGUMENT, 0, 1000000, "joined with, behind it, bytes as many as", (x, n) -> x.joined(1, 2, n));
        Document.says(11, "by one rule, whatever the numbers are");
        for (int one : SOME) {
            for (int other : SOME) {
                Edge.answers(Edge.NEW, "joined of " + one + " and " + other + " with none behind", x -> x.joined(one, other, 0), one ^ other);
            }
            Edge.answers(Edge.NEW, "joined of no text and a million bytes", x -> x.joined(0, one, 1000000), one);
        }
        Edge.answers(Edge.NEW, "joined of a byte and a million bytes", x -> x.joined(zeros(1), zeros(1000000), 1000000), zeros(1000001));
        Edge.answers(Edge.NEW, "joined of a million bytes and one", x -> x.joined(zeros(1000000), zeros(1), 1), zeros(1000001));
        Edge.answers(Edge.NEW, "joined of a million bytes and as many", x -> x.joined(zeros(1000000), zeros(1000000), 1000000), zeros(2000000));
    }

    private static void firstOf() {
        Document.says(12, BEHIND, OUT_OF_RANGE);
        Edge.range(Edge.drawer(0, 1), Edge.ARGUMENT, 0, 1000000, "firstOf with, behind it, bytes as many as", (x, n) -> x.firstOf(1, 2, n));
        for (int one : SOME) {
            for (int other : SOME) {
                Edge.answers(Edge.NEW, "firstOf of " + one + " and " + other + " with none behind", x -> x.firstOf(one, other, 0), one ^ other);
                Edge.answers(Edge.NEW, "firstOf of what a million bytes behind it left", x -> x.firstOf(x.joined(one, other, 1000000), other, 1000000), one);
            }
        }
        Edge.answers(Edge.NEW, "firstOf of a byte and a million bytes", x -> x.firstOf(zeros(1000001), zeros(1000000), 1000000), zeros(1));
        Edge.answers(Edge.NEW, "firstOf of a million bytes and one", x -> x.firstOf(zeros(1000001), zeros(1), 1), zeros(1000000));
    }

    private static void secondOf() {
        Document.says(13, BEHIND, OUT_OF_RANGE);
        Edge.range(Edge.drawer(0, 1), Edge.ARGUMENT, 0, 1000000, "secondOf with, behind it, bytes as many as", (x, n) -> x.secondOf(1, 2, n));
        for (int one : SOME) {
            for (int other : SOME) {
                Edge.answers(Edge.NEW, "secondOf of " + one + " and " + other + " with none behind", x -> x.secondOf(one, other, 0), one ^ other);
                Edge.answers(Edge.NEW, "secondOf of what a million bytes behind it left", x -> x.secondOf(x.joined(one, other, 1000000), one, 1000000), other);
            }
        }
        Edge.answers(Edge.NEW, "secondOf of a byte and a million bytes", x -> x.secondOf(zeros(1000001), zeros(1), 1000000), zeros(1000000));
        Edge.answers(Edge.NEW, "secondOf of a million bytes and one", x -> x.secondOf(zeros(1000001), zeros(1000000), 1), zeros(1));
    }

    private static void lay() {
        Document.says(14, NO_TEXT);
        Edge.range(Edge.everyText(4), Edge.INDEX, 0, 5, "lay in the text", (x, n) -> x.lay(n, 0, 77));
        Document.says(14, "Throws `NoSuchElementException` if there are no four bytes from there on");
        for (int many : new int[] {4, 5, 8, 119, 120}) {
            Edge.range(of(many, 1), Edge.NO_SUCH, 0, many - 4, "lay in " + many + " bytes, at", (x, n) -> x.lay(0, n, 77));
            Edge.refuses(of(many, 1), Edge.NO_SUCH, "lay at the last of " + many + " bytes", x -> x.lay(0, many - 1, 77));
            Edge.refuses(of(many, 1), Edge.NO_SUCH, "lay behind " + many + " bytes", x -> x.lay(0, many, 77));
        }
        for (int many = 0; many < 4; many++) {
            int m = many;
            for (int place : new int[] {-4, -1, 0, 1, many - 4, many, Edge.LEAST, Edge.GREATEST}) {
                Edge.refuses(of(m, 1), Edge.NO_SUCH, "lay in " + m + " bytes, at " + place, x -> x.lay(0, place, 77));
            }
        }
        Edge.refuses(of(120, 1).and(x -> x.cut(0, 50)), Edge.NO_SUCH, "lay at what a cut left", x -> x.lay(0, 47, 77));
        Document.saysFirst(14);
        Edge.refuses(of(4, 1), Edge.INDEX, "lay in no text, at -1", x -> x.lay(6, -1, 77));
        Edge.refuses(of(4, 1), Edge.INDEX, "lay in no text, at 117", x -> x.lay(-1, 117, 77));
    }

    private static void layWanted() {
        Document.says(14, "Returns the four bytes, the first one being the lowest of the number.");
        Document.says(Document.TERMS, "there is just one row of four bytes to be laid there that makes it the text's check");
        for (int many : new int[] {4, 5, 120}) {
            for (int place : new int[] {0, many - 4}) {
                for (int wanted : SOME) {
                    String call = "lay of " + wanted + " at " + place + " in " + many + " bytes";
                    Edge.answers(of(many, 1).and(x -> x.lay(0, place, wanted)), call + ", and the check", x -> x.check(0), wanted & 0xFFFFFFFFL);
                    Edge.answers(of(many, 1), call + ", less the bytes there", x -> x.lay(0, place, wanted) - fourAt(x, place), 0);
                    Edge.answers(of(many, 1), call + ", and the old check again", x -> {
                        int old = (int) x.check(0);
                        int four = fourAt(x, place);
                        x.lay(0, place, wanted);
                        return x.lay(0, place, old) == four;
                    }, true);
                }
            }
        }
    }

    private static int fourAt(Checkdraw x, int place) {
        return x.byteAt(0, place) | x.byteAt(0, place + 1) << 8 | x.byteAt(0, place + 2) << 16 | x.byteAt(0, place + 3) << 24;
    }

    private static void near() {
        Document.says(15, NO_TEXT_OR_DRAWER);
        Edge.Scene all = Edge.everyText(4).and(Edge.everyDrawer(3));
        Edge.range(all, Edge.INDEX, 0, 5, "near in the text", (x, n) -> x.near(n, 0, 1));
        Edge.range(all, Edge.INDEX, 0, 5, "near by the drawer", (x, n) -> x.near(0, n, 1));
        Edge.refuses(of(4, 0), Edge.INDEX, "near by a drawer that is not there", x -> x.near(0, 1, 1));
        Document.says(15, "`times`: how often, 1 to 50", OUT_OF_RANGE);
        Edge.range(of(4, 0), Edge.ARGUMENT, 1, 50, "near, times", (x, n) -> x.near(0, 0, n));
        Document.says(15, "Throws `NoSuchElementException` if the text has fewer than four bytes");
        for (int many = 0; many < 4; many++) {
            Edge.refuses(of(many, 0), Edge.NO_SUCH, "near in " + many + " bytes", x -> x.near(0, 0, 1));
        }
        for (int many : new int[] {4, 5, 119, 120}) {
            Document.says(15, "the text stays as it was", "Returns how often the check was another one.");
            Edge.answers(of(many, 0), "near in " + many + " bytes, once", x -> x.near(0, 0, 1) + " " + x.asked(0), "1 2");
            Edge.answers(of(many, 0), "near in " + many + " bytes, fifty times", x -> x.near(0, 0, 50) + " " + x.asked(0), "50 100");
            textStays(many, "near", x -> x.near(0, 0, 50));
        }
    }

    private static void nearAsks() {
        Document.says(15, TOO_OFTEN);
        Edge.answers(of(4, 398), "near, once, at 398", x -> x.near(0, 0, 1) + " " + x.asked(0), "1 400");
        Edge.refuses(of(4, 399), Edge.STATE, "near, once, at 399", x -> x.near(0, 0, 1));
        Edge.refuses(of(4, 400), Edge.STATE, "near, once, at 400", x -> x.near(0, 0, 1));
        Edge.answers(of(4, 300), "near, fifty times, at 300", x -> x.near(0, 0, 50) + " " + x.asked(0), "50 400");
        Edge.refuses(of(4, 301), Edge.STATE, "near, fifty times, at 301", x -> x.near(0, 0, 50));
        Edge.answers(of(4, 301), "near, forty-nine times, at 301", x -> x.near(0, 0, 49) + " " + x.asked(0), "49 399");
        Document.saysFirst(15);
        Edge.refuses(of(4, 400), Edge.INDEX, "near in no text, 51 times, at 400", x -> x.near(6, 0, 51));
        Edge.refuses(of(4, 400), Edge.INDEX, "near in no text, once, at 400", x -> x.near(-1, 0, 1));
        Edge.refuses(of(3, 400), Edge.INDEX, "near by no drawer in three bytes", x -> x.near(0, 1, 1));
        Edge.refuses(of(4, 400), Edge.INDEX, "near by no drawer, 0 times", x -> x.near(0, 6, 0));
        Edge.refuses(of(3, 0), Edge.ARGUMENT, "near in three bytes, 0 times", x -> x.near(0, 0, 0));
        Edge.refuses(of(3, 0), Edge.ARGUMENT, "near in three bytes, 51 times", x -> x.near(0, 0, 51));
        Edge.refuses(of(4, 400), Edge.ARGUMENT, "near, 51 times, at 400", x -> x.near(0, 0, 51));
        Edge.refuses(of(4, 400), Edge.ARGUMENT, "near, 0 times, at 400", x -> x.near(0, 0, 0));
        Edge.refuses(of(3, 400), Edge.ARGUMENT, "near in three bytes, 51 times, at 400", x -> x.near(0, 0, 51));
        Edge.refuses(of(3, 399), Edge.NO_SUCH, "near in three bytes, at 399", x -> x.near(0, 0, 1));
        Edge.refuses(of(0, 400), Edge.NO_SUCH, "near in an empty text, at 400", x -> x.near(0, 0, 50));
    }

    /**
     * By the seeds here the method of SplittableRandom tells, as the second number, an int that is 0, or one of which
     * the highest bit alone is set; by other methods they are seeds like any.
     */
    private static void nearOfNothingDrawn() {
        Document.says(15, "or the lowest one alone if it is 0");
        for (long told : new long[] {0L, 1L, 0xFFFFFFFFL, 0x8000000000000000L, 0xFFFFFFFFFFFFFFFFL, 0x0000000100000000L}) {
            long seed = mixedFrom(told) - 2 * 0x9E3779B97F4A7C15L;
            for (int many : new int[] {4, 120}) {
                Edge.answers(Edge.bytes(0, many).and(x -> x.make(0, (int) (seed >>> 32), (int) seed)), "near by the seed " + seed, x -> x.near(0, 0, 1), 1);
            }
        }
    }

    /** What is mixed to this number: the way back over two products by odd numbers, and three shifts. */
    private static long mixedFrom(long told) {
        long back = unshifted(told, 31) * inverse(0x94D049BB133111EBL);
        back = unshifted(back, 27) * inverse(0xBF58476D1CE4E5B9L);
        return unshifted(back, 30);
    }

    private static long unshifted(long told, int shift) {
        long back = told;
        for (int known = shift; known < 64; known += shift) {
            back = told ^ back >>> shift;
        }
        return back;
    }

    private static long inverse(long odd) {
        long inverse = odd;
        for (int i = 0; i < 6; i++) {
            inverse *= 2 - odd * inverse;
        }
        return inverse;
    }

    private static void odd() {
        Document.says(16, NO_TEXT_OR_DRAWER);
        Edge.Scene all = Edge.everyText(1).and(Edge.everyDrawer(3));
        Edge.range(all, Edge.INDEX, 0, 5, "odd in the text", (x, n) -> x.odd(n, 0, 1, 1));
        Edge.range(all, Edge.INDEX, 0, 5, "odd by the drawer", (x, n) -> x.odd(0, n, 1, 1));
        Edge.refuses(of(4, 0), Edge.INDEX, "odd by a drawer that is not there", x -> x.odd(0, 1, 1, 1));
        Document.says(16, "`many`: how many unlike bits, odd, 1 to 31", "Throws `IllegalArgumentException` if a number is out of range, or the bits are not odd");
        Edge.range(of(4, 0), Edge.ARGUMENT, 1, 31, "odd, bits", (x, n) -> x.odd(0, 0, n, 1));
        for (int many = -33; many <= 65; many++) {
            int m = many;
            if (many % 2 != 0 && many >= 1 && many <= 31) {
                Edge.answers(of(4, 0), "odd of " + m + " bits", x -> x.odd(0, 0, m, 1) + " " + x.asked(0), "1 " + m);
            } else {
                Edge.refuses(of(4, 0), Edge.ARGUMENT, "odd of " + m + " bits", x -> x.odd(0, 0, m, 1));
            }
        }
        Document.says(16, "`times`: how often, 1 to 10");
        Edge.range(of(4, 0), Edge.ARGUMENT, 1, 10, "odd, times", (x, n) -> x.odd(0, 0, 3, n));
        Edge.answers(of(120, 0), "odd of 31 bits, ten times", x -> x.odd(0, 0, 31, 10) + " " + x.asked(0), "10 310");
        Document.says(16, "the text stays as it was", "Returns how often the check was another one.");
        textStays(4, "odd", x -> x.odd(0, 0, 31, 10));
        textStays(120, "odd", x -> x.odd(0, 0, 31, 10));
    }

    private static void oddBits() {
        Document.says(16, "Throws `NoSuchElementException` if the text has not so many bits");
        for (int many = 1; many <= 31; many += 2) {
            int m = many;
            int needed = (many + 7) / 8;
            Edge.answers(of(needed, 0), "odd of " + m + " of " + 8 * needed + " bits", x -> x.odd(0, 0, m, 10) + " " + x.asked(0), "10 " + 10 * m);
            Edge.refuses(of(needed - 1, 0), Edge.NO_SUCH, "odd of " + m + " of " + 8 * (needed - 1) + " bits", x -> x.odd(0, 0, m, 1));
            Edge.refuses(of(0, 0), Edge.NO_SUCH, "odd of " + m + " of no bit", x -> x.odd(0, 0, m, 1));
        }
    }

    private static void oddAsks() {
        Document.says(16, TOO_OFTEN);
        Edge.answers(of(4, 399), "odd of 1 bit, once, at 399", x -> x.odd(0, 0, 1, 1) + " " + x.asked(0), "1 400");
        Edge.refuses(of(4, 400), Edge.STATE, "odd of 1 bit, once, at 400", x -> x.odd(0, 0, 1, 1));
        Edge.answers(of(4, 397), "odd of 3 bits, once, at 397", x -> x.odd(0, 0, 3, 1) + " " + x.asked(0), "1 400");
        Edge.refuses(of(4, 398), Edge.STATE, "odd of 3 bits, once, at 398", x -> x.odd(0, 0, 3, 1));
        Edge.refuses(of(4, 399), Edge.STATE, "odd of 1 bit, twice, at 399", x -> x.odd(0, 0, 1, 2));
        Edge.answers(of(4, 90), "odd of 31 bits, ten times, at 90", x -> x.odd(0, 0, 31, 10) + " " + x.asked(0), "10 400");
        Edge.refuses(of(4, 91), Edge.STATE, "odd of 31 bits, ten times, at 91", x -> x.odd(0, 0, 31, 10));
        Document.saysFirst(16);
        Edge.refuses(of(4, 400), Edge.INDEX, "odd in no text, 2 bits, at 400", x -> x.odd(6, 0, 2, 1));
        Edge.refuses(of(4, 400), Edge.INDEX, "odd in no text, at 400", x -> x.odd(-1, 0, 1, 1));
        Edge.refuses(of(0, 400), Edge.INDEX, "odd by no drawer in an empty text", x -> x.odd(0, 1, 1, 1));
        Edge.refuses(of(4, 400), Edge.INDEX, "odd by no drawer, 11 times", x -> x.odd(0, 6, 1, 11));
        Edge.refuses(of(0, 0), Edge.ARGUMENT, "odd in an empty text, 2 bits", x -> x.odd(0, 0, 2, 1));
        Edge.refuses(of(0, 0), Edge.ARGUMENT, "odd in an empty text, 33 bits", x -> x.odd(0, 0, 33, 1));
        Edge.refuses(of(0, 0), Edge.ARGUMENT, "odd in an empty text, 0 times", x -> x.odd(0, 0, 1, 0));
        Edge.refuses(of(0, 0), Edge.ARGUMENT, "odd in an empty text, 11 times", x -> x.odd(0, 0, 1, 11));
        Edge.refuses(of(4, 400), Edge.ARGUMENT, "odd, 30 bits, at 400", x -> x.odd(0, 0, 30, 1));
        Edge.refuses(of(4, 400), Edge.ARGUMENT, "odd, 33 bits, at 400", x -> x.odd(0, 0, 33, 1));
        Edge.refuses(of(4, 400), Edge.ARGUMENT, "odd, 11 times, at 400", x -> x.odd(0, 0, 1, 11));
        Edge.refuses(of(0, 400), Edge.NO_SUCH, "odd in an empty text, at 400", x -> x.odd(0, 0, 1, 1));
        Edge.refuses(of(3, 391), Edge.NO_SUCH, "odd of 25 of 24 bits, at 391", x -> x.odd(0, 0, 25, 1));
    }
}
