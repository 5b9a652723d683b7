/** Promises 40 to 43: shares, means, the sum over all, and the theorem. */
final class WholeTest {
    public static void main(String[] args) {
        fullShare();
        meanByte();
        checksumOfAll();
        isSound();
        Due.end("WholeTest");
    }

    private static void fullShare() {
        Checkdraw x = new Checkdraw();
        for (int i = 1; i <= 120; i++) {
            x.add(0, i);
            Due.is("fullShare of " + i, x.fullShare(0), (float) i / 120f);
        }
    }

    private static void meanByte() {
        Checkdraw x = new Checkdraw();
        x.addMore(0, 3, 0, 255, 255, 0, 0, 0, 0, 0);
        Due.is("meanByte of 0, 255, 255", x.meanByte(0), 510.0 / 3.0);
        x.cut(0, 2);
        Due.is("meanByte of 0, 255", x.meanByte(0), 127.5);
        x.flip(0, 0);
        Due.is("meanByte of 1, 255", x.meanByte(0), 128.0);
        double sum = 0;
        for (int i = 1; i <= 120; i++) {
            Due.fill(x, 1, i);
            sum += x.byteAt(1, i - 1);
            Due.is("meanByte of " + i, x.meanByte(1), sum / i);
        }
    }

    private static void checksumOfAll() {
        Checkdraw x = new Checkdraw();
        for (int i = 0; i < 6; i++) {
            Due.fill(x, i, 20 * i);
        }
        for (int i = 0; i < 5; i++) {
            x.make(i, i, i);
            x.below(i, 5, i + 1);
        }
        for (int i = 0; i < 3; i++) {
            for (int j = 0; j <= i; j++) {
                x.put(i, j, j, i);
            }
        }
        long want = 7;
        for (int i = 0; i < 6; i++) {
            want = 31 * want + x.length(i);
            want = 31 * want + x.check(i);
        }
        for (int i = 0; i < 6; i++) {
            want = 31 * want + (i == 5 ? -1 : x.asked(i));
        }
        for (int i = 0; i < 4; i++) {
            want = 31 * want + x.size(i);
            want = 31 * want + x.storeCheck(i);
        }
        Due.is("checksum of all", x.checksum(), want);
        Due.is("checksum again", x.checksum(), want);
    }

    private static void isSound() {
        Checkdraw x = new Checkdraw();
        x.make(0, 1, 2);
        for (int i = 0; i < 6; i++) {
            Due.fill(x, i, 24 * i);
        }
        for (int i = 0; i < 40; i++) {
            x.put(i % 4, i * 13 % 40, i, 0);
        }
        Due.yes("isSound with all filled", x.isSound());
        long before = x.checksum();
        x.isSound();
        Due.is("isSound changes nothing", x.checksum(), before);
    }
}
