import java.util.Random;

/** Promises 10 to 16: checks, how they hang together, and the changes that they see. */
final class ChecksTest {
    private static final int[] NO_NUMBER = {-1, 1000001, Integer.MIN_VALUE, Integer.MAX_VALUE};

    public static void main(String[] args) {
        check();
        joinedAndParted();
        bytesBehind();
        lay();
        near();
        nearWay();
        odd();
        oddWay();
        Due.end("ChecksTest");
    }

    private static void check() {
        Checkdraw x = new Checkdraw();
        Due.is("check of no byte", x.check(0), 0L);
        Due.write(x, 0, "123456789");
        Due.is("check of 123456789", x.check(0), 0xE3069283L);
        // The four rows of 32 bytes that RFC 3720 tells in its B.4.
        for (int i = 0; i < 32; i++) {
            x.add(1, 0);
            x.add(2, 255);
            x.add(3, i);
            x.add(4, 31 - i);
        }
        Due.is("check of zeros", x.check(1), 0x8A9136AAL);
        Due.is("check of ones", x.check(2), 0x62A8AB43L);
        Due.is("check of 0 to 31", x.check(3), 0x46DD794EL);
        Due.is("check of 31 to 0", x.check(4), 0x113FDB5CL);
        for (int i = 1; i <= 120; i++) {
            Due.fill(x, 5, i);
            Due.is("check of " + i + " bytes", x.check(5), Due.libraryCheck(Due.bytesOf(x, 5)));
        }
        for (int text : Due.NO_TEXT) {
            Due.refused(x, Due.INDEX, "check of no text", () -> x.check(text));
        }
    }

    private static void joinedAndParted() {
        Checkdraw x = new Checkdraw();
        Random random = new Random(11);
        for (int i = 0; i < 60; i++) {
            x.cut(0, 0);
            x.cut(1, 0);
            Due.fill(x, 0, random.nextInt(60));
            Due.fill(x, 1, random.nextInt(60));
            if (x.length(1) > 0) {
                x.flip(1, random.nextInt(8 * x.length(1)));
            }
            x.join(0, 1, 2);
            int first = (int) x.check(0);
            int second = (int) x.check(1);
            int whole = (int) x.check(2);
            Due.is("joined", x.joined(first, second, x.length(1)), whole);
            Due.is("firstOf", x.firstOf(whole, second, x.length(1)), first);
            Due.is("secondOf", x.secondOf(whole, first, x.length(1)), second);
        }
        for (int many : NO_NUMBER) {
            Due.refused(x, Due.ARGUMENT, "joined with " + many, () -> x.joined(1, 2, many));
            Due.refused(x, Due.ARGUMENT, "firstOf with " + many, () -> x.firstOf(1, 2, many));
            Due.refused(x, Due.ARGUMENT, "secondOf with " + many, () -> x.secondOf(1, 2, many));
        }
    }

    /** Whatever the numbers are: so many bytes behind a check go over it one by one. */
    private static void bytesBehind() {
        Checkdraw x = new Checkdraw();
        Random random = new Random(12);
        for (int many : new int[] {0, 1, 2, 3, 4, 5, 31, 32, 255, 256, 4095, 65536, 999999, 1000000}) {
            for (int i = 0; i < 4; i++) {
                int first = i == 0 ? 0 : i == 1 ? -1 : random.nextInt();
                int second = i == 2 ? Integer.MIN_VALUE : random.nextInt();
                int whole = overZeros(first, many) ^ second;
                Due.is("joined over " + many, x.joined(first, second, many), whole);
                Due.is("firstOf over " + many, x.firstOf(whole, second, many), first);
                Due.is("secondOf over " + many, x.secondOf(whole, first, many), second);
            }
        }
    }

    private static int overZeros(int check, int many) {
        int left = check;
        for (int i = 0; i < 8 * many; i++) {
            left = left >>> 1 ^ ((left & 1) == 0 ? 0 : 0x82F63B78);
        }
        return left;
    }

    private static void lay() {
        Checkdraw x = new Checkdraw();
        Random random = new Random(13);
        Due.fill(x, 0, 120);
        for (int place = 0; place <= 116; place++) {
            int wanted = place == 0 ? 0 : place == 1 ? -1 : random.nextInt();
            byte[] want = Due.bytesOf(x, 0);
            int laid = x.lay(0, place, wanted);
            for (int i = 0; i < 4; i++) {
                want[place + i] = (byte) (laid >>> 8 * i);
            }
            Due.is("the bytes after lay at " + place, new String(Due.bytesOf(x, 0), java.nio.charset.StandardCharsets.ISO_8859_1), new String(want, java.nio.charset.StandardCharsets.ISO_8859_1));
            Due.is("check after lay at " + place, x.check(0), wanted & 0xFFFFFFFFL);
            Due.is("lay of the same again", x.lay(0, place, wanted), laid);
        }
        x.addMore(1, 4, 1, 2, 3, 4, 0, 0, 0, 0);
        int check = (int) x.check(1);
        x.lay(1, 0, 77);
        Due.is("just one row has the check", x.lay(1, 0, check), 0x04030201);
        for (int place : new int[] {-1, 1, Integer.MIN_VALUE, Integer.MAX_VALUE}) {
            Due.refused(x, Due.NO_SUCH, "lay(1, " + place + ", 0)", () -> x.lay(1, place, 0));
        }
        x.cut(1, 3);
        Due.refused(x, Due.NO_SUCH, "lay in three bytes", () -> x.lay(1, 0, 0));
        Due.refused(x, Due.NO_SUCH, "lay in an empty text", () -> x.lay(2, 0, 0));
        for (int text : Due.NO_TEXT) {
            Due.refused(x, Due.INDEX, "lay in no text", () -> x.lay(text, -1, 0));
        }
    }

    private static void near() {
        Checkdraw x = new Checkdraw();
        x.make(0, 5, 6);
        x.addMore(0, 4, 0, 0, 0, 0, 0, 0, 0, 0);
        long before = x.check(0);
        Due.is("near(0, 0, 50)", x.near(0, 0, 50), 50);
        Due.is("asked after it", x.asked(0), 100);
        Due.is("the text stays", x.check(0), before);
        Due.is("near(0, 0, 1)", x.near(0, 0, 1), 1);
        Due.fill(x, 1, 120);
        Due.is("near in a full text", x.near(1, 0, 20), 20);
        Due.is("asked after it", x.asked(0), 142);
        for (int text : Due.NO_TEXT) {
            Due.refused(x, Due.INDEX, "near in no text", () -> x.near(text, 0, 0));
            Due.refused(x, Due.INDEX, "near by no drawer", () -> x.near(0, text, 0));
        }
        Due.refused(x, Due.INDEX, "near by a drawer that is not made", () -> x.near(2, 1, 0));
        for (int times : new int[] {0, 51, -1, Integer.MIN_VALUE, Integer.MAX_VALUE}) {
            Due.refused(x, Due.ARGUMENT, "near, times " + times, () -> x.near(2, 0, times));
        }
        x.cut(0, 3);
        Due.askUpTo(x, 0, 399);
        Due.refused(x, Due.NO_SUCH, "near in three bytes", () -> x.near(0, 0, 1));
        Due.refused(x, Due.STATE, "near with one left", () -> x.near(1, 0, 1));
        x.make(0, 5, 6);
        Due.askUpTo(x, 0, 302);
        Due.refused(x, Due.STATE, "near, 402 in all", () -> x.near(1, 0, 50));
        Due.is("near, 400 in all", x.near(1, 0, 49), 49);
        Due.is("asked after it", x.asked(0), 400);
        Due.refused(x, Due.STATE, "near after all", () -> x.near(1, 0, 1));
    }

    /** Each try asks for a number below as many places as 32 bits next to each other have, and for an int. */
    private static void nearWay() {
        for (int many : new int[] {4, 5, 120}) {
            Checkdraw x = new Checkdraw();
            x.make(0, 1, 1);
            x.make(1, 1, 1);
            Due.fill(x, 0, many);
            x.near(0, 0, 2);
            for (int i = 0; i < 2; i++) {
                x.below(1, 8 * many - 31, 1);
                Due.no("isSameWay amid it", x.isSameWay(0, 1));
                x.put(0, i, 0, 1);
            }
            Due.yes("isSameWay after near", x.isSameWay(0, 1));
            Due.is("alike after near", x.alike(0, 1, 20), 20);
        }
    }

    private static void odd() {
        Checkdraw x = new Checkdraw();
        x.make(0, 8, 9);
        x.add(0, 77);
        long before = x.check(0);
        Due.is("odd(0, 0, 7, 10)", x.odd(0, 0, 7, 10), 10);
        Due.is("asked after it", x.asked(0), 70);
        Due.is("the text stays", x.check(0), before);
        Due.is("odd(0, 0, 1, 1)", x.odd(0, 0, 1, 1), 1);
        Due.fill(x, 1, 120);
        Due.is("odd in a full text", x.odd(1, 0, 31, 10), 10);
        Due.is("asked after it", x.asked(0), 381);
        for (int text : Due.NO_TEXT) {
            Due.refused(x, Due.INDEX, "odd in no text", () -> x.odd(text, 0, 0, 0));
            Due.refused(x, Due.INDEX, "odd by no drawer", () -> x.odd(0, text, 0, 0));
        }
        Due.refused(x, Due.INDEX, "odd by a drawer that is not made", () -> x.odd(0, 1, 0, 0));
        for (int many : new int[] {0, 2, 30, 32, 33, -1, -3, Integer.MIN_VALUE, Integer.MAX_VALUE}) {
            Due.refused(x, Due.ARGUMENT, "odd of " + many, () -> x.odd(2, 0, many, 1));
        }
        for (int times : new int[] {0, 11, -1, Integer.MIN_VALUE, Integer.MAX_VALUE}) {
            Due.refused(x, Due.ARGUMENT, "odd, times " + times, () -> x.odd(2, 0, 1, times));
        }
        Due.refused(x, Due.NO_SUCH, "odd of 9 in 8 bits", () -> x.odd(0, 0, 9, 10));
        Due.refused(x, Due.NO_SUCH, "odd of 1 in no bit", () -> x.odd(2, 0, 1, 1));
        x.copy(1, 3);
        x.cut(3, 3);
        x.make(3, 1, 1);
        Due.is("odd of 23 in 24 bits", x.odd(3, 3, 23, 3), 3);
        Due.refused(x, Due.NO_SUCH, "odd of 25 in 24 bits", () -> x.odd(3, 3, 25, 1));
        Due.refused(x, Due.STATE, "odd, 402 in all", () -> x.odd(0, 0, 7, 3));
        Due.askUpTo(x, 0, 386);
        Due.is("odd, 400 in all", x.odd(0, 0, 7, 2), 2);
        Due.is("asked after it", x.asked(0), 400);
        Due.refused(x, Due.STATE, "odd after all", () -> x.odd(0, 0, 1, 1));
    }

    /** Each try asks from how many were chosen in it up to how many bits there are. */
    private static void oddWay() {
        Checkdraw x = new Checkdraw();
        x.make(0, 2, 2);
        x.make(1, 2, 2);
        Due.fill(x, 0, 3);
        x.odd(0, 0, 3, 2);
        for (int i = 0; i < 6; i++) {
            Due.no("isSameWay amid it", x.isSameWay(0, 1));
            x.between(1, i % 3, 24, 1);
        }
        Due.yes("isSameWay after odd", x.isSameWay(0, 1));
        Due.is("alike after odd", x.alike(0, 1, 20), 20);
    }
}
