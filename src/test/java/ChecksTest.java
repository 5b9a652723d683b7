import java.util.Arrays;
import java.util.Random;

/** Promises 10 to 16: checks, how they hang together, and the changes that they see. */
final class ChecksTest {
    public static void main(String[] args) {
        check();
        joinedAndParted();
        bytesBehind();
        lay();
        near();
        nearWay();
        odd();
        oddWay();
        Due.end("ChecksTest");
    }

    private static void check() {
        Checkdraw x = new Checkdraw();
        Due.write(x, 0, "123456789");
        Due.is("check of 123456789", x.check(0), 0xE3069283L);
        // The four rows of 32 bytes that RFC 3720 tells in its B.4.
        for (int i = 0; i < 32; i++) {
            x.add(1, 0);
            x.add(2, 255);
            x.add(3, i);
            x.add(4, 31 - i);
        }
        Due.is("check of zeros", x.check(1), 0x8A9136AAL);
        Due.is("check of ones", x.check(2), 0x62A8AB43L);
        Due.is("check of 0 to 31", x.check(3), 0x46DD794EL);
        Due.is("check of 31 to 0", x.check(4), 0x113FDB5CL);
        for (int i = 1; i <= 120; i++) {
            Due.fill(x, 5, i);
            Due.is("check of " + i + " bytes", x.check(5), Due.libraryCheck(Due.filled(i)));
        }
    }

    private static void joinedAndParted() {
        Random random = new Random(11);
        for (int i = 0; i < 60; i++) {
            Checkdraw x = new Checkdraw();
            Due.fill(x, 0, random.nextInt(60));
            Due.fill(x, 1, 1 + random.nextInt(59));
            x.flip(1, random.nextInt(8 * x.length(1)));
            x.join(0, 1, 2);
            int first = (int) x.check(0);
            int second = (int) x.check(1);
            int whole = (int) x.check(2);
            Due.is("joined", x.joined(first, second, x.length(1)), whole);
            Due.is("firstOf", x.firstOf(whole, second, x.length(1)), first);
            Due.is("secondOf", x.secondOf(whole, first, x.length(1)), second);
        }
    }

    /** Whatever the numbers are: so many bytes behind a check go over it one by one. */
    private static void bytesBehind() {
        Checkdraw x = new Checkdraw();
        Random random = new Random(12);
        for (int many : new int[] {0, 1, 2, 3, 4, 5, 31, 32, 255, 256, 4095, 65536, 999999, 1000000}) {
            for (int i = 0; i < 4; i++) {
                int first = i == 0 ? 0 : i == 1 ? -1 : random.nextInt();
                int second = i == 2 ? Integer.MIN_VALUE : random.nextInt();
                int whole = overZeros(first, many) ^ second;
                Due.is("joined over " + many, x.joined(first, second, many), whole);
                Due.is("firstOf over " + many, x.firstOf(whole, second, many), first);
                Due.is("secondOf over " + many, x.secondOf(whole, first, many), second);
            }
        }
    }

    private static int overZeros(int check, int many) {
        int left = check;
        for (int i = 0; i < 8 * many; i++) {
            left = left >>> 1 ^ ((left & 1) == 0 ? 0 : 0x82F63B78);
        }
        return left;
    }

    private static void lay() {
        Random random = new Random(13);
        for (int place = 0; place <= 116; place++) {
            Checkdraw x = new Checkdraw();
            Due.fill(x, 0, 120);
            int wanted = random.nextInt();
            byte[] want = Due.filled(120);
            int laid = x.lay(0, place, wanted);
            for (int i = 0; i < 4; i++) {
                want[place + i] = (byte) (laid >>> 8 * i);
            }
            Due.is("the bytes after lay at " + place, Arrays.toString(Due.bytesOf(x, 0)), Arrays.toString(want));
            Due.is("check after lay at " + place, x.check(0), wanted & 0xFFFFFFFFL);
            Due.is("lay of the same again", x.lay(0, place, wanted), laid);
        }
        Checkdraw x = new Checkdraw();
        x.addMore(1, 4, 1, 2, 3, 4, 0, 0, 0, 0);
        int check = (int) x.check(1);
        x.lay(1, 0, 77);
        Due.is("just one row has the check", x.lay(1, 0, check), 0x04030201);
    }

    private static void near() {
        for (int many = 4; many <= 120; many++) {
            Checkdraw x = new Checkdraw();
            x.make(0, 5, many);
            Due.fill(x, 0, many);
            long before = x.check(0);
            Due.is("near in " + many + " bytes", x.near(0, 0, 30), 30);
            Due.is("asked after it", x.asked(0), 60);
            Due.is("the text stays", x.check(0), before);
            Due.is("near of one that is split", x.split(0, 1) + x.near(0, 1, 9), 70);
            Due.is("asked after it", x.asked(1), 79);
        }
    }

    /** Each try asks for a number below as many places as 32 bits next to each other have, and for an int. */
    private static void nearWay() {
        for (int many : new int[] {4, 5, 120}) {
            Checkdraw x = new Checkdraw();
            x.make(0, 1, 1);
            x.make(1, 1, 1);
            Due.fill(x, 0, many);
            x.near(0, 0, 2);
            for (int i = 0; i < 2; i++) {
                x.below(1, 8 * many - 31, 1);
                Due.no("isSameWay amid it", x.isSameWay(0, 1));
                x.put(0, i, 0, 1);
            }
            Due.yes("isSameWay after near", x.isSameWay(0, 1));
            Due.is("alike after near", x.alike(0, 1, 20), 20);
        }
    }

    private static void odd() {
        for (int many = 1; many <= 31; many += 2) {
            Checkdraw x = new Checkdraw();
            x.make(0, 8, many);
            Due.fill(x, 0, 4 + 3 * many);
            long before = x.check(0);
            Due.is("odd of " + many + " bits", x.odd(0, 0, many, 5), 5);
            Due.is("asked after it", x.asked(0), 5 * many);
            Due.is("the text stays", x.check(0), before);
            Due.is("odd of one that is split", x.split(0, 1) + x.odd(0, 1, many, 2), 5 * many + 3);
            Due.is("asked after it", x.asked(1), 7 * many + 1);
        }
    }

    /** Each try asks from how many were chosen in it up to how many bits there are. */
    private static void oddWay() {
        Checkdraw x = new Checkdraw();
        x.make(0, 2, 2);
        x.make(1, 2, 2);
        Due.fill(x, 0, 3);
        x.odd(0, 0, 3, 2);
        for (int i = 0; i < 6; i++) {
            Due.no("isSameWay amid it", x.isSameWay(0, 1));
            x.between(1, i % 3, 24, 1);
        }
        Due.yes("isSameWay after odd", x.isSameWay(0, 1));
        Due.is("alike after odd", x.alike(0, 1, 20), 20);
    }
}
