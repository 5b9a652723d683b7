/** Promises 40 to 43: shares, means, the sum over all, and the theorem. */
final class WholeTest {
    public static void main(String[] args) {
        fullShare();
        meanByte();
        checksumAtFirst();
        checksumOfAll();
        isSound();
        Due.end("WholeTest");
    }

    private static void fullShare() {
        Checkdraw x = new Checkdraw();
        Due.is("fullShare of an empty text", x.fullShare(0), 0f);
        for (int i = 1; i <= 120; i++) {
            x.add(0, i);
            Due.is("fullShare of " + i, x.fullShare(0), (float) i / 120f);
        }
        Due.is("fullShare of a full text", x.fullShare(0), 1f);
        for (int text : Due.NO_TEXT) {
            Due.refused(x, Due.INDEX, "fullShare of no text", () -> x.fullShare(text));
        }
    }

    private static void meanByte() {
        Checkdraw x = new Checkdraw();
        Due.refused(x, Due.ARITHMETIC, "meanByte of an empty text", () -> x.meanByte(0));
        for (int text : Due.NO_TEXT) {
            Due.refused(x, Due.INDEX, "meanByte of no text", () -> x.meanByte(text));
        }
        x.add(0, 0);
        Due.is("meanByte of 0", x.meanByte(0), 0.0);
        x.add(0, 255);
        x.add(0, 255);
        Due.is("meanByte of 0, 255, 255", x.meanByte(0), 510.0 / 3.0);
        x.cut(0, 2);
        Due.is("meanByte of 0, 255", x.meanByte(0), 127.5);
        x.flip(0, 0);
        Due.is("meanByte of 1, 255", x.meanByte(0), 128.0);
        Due.fill(x, 1, 120);
        double sum = 0;
        for (byte sign : Due.bytesOf(x, 1)) {
            sum += sign & 255;
        }
        Due.is("meanByte of a full text", x.meanByte(1), sum / 120.0);
        x.cut(0, 0);
        Due.refused(x, Due.ARITHMETIC, "meanByte after a cut of all", () -> x.meanByte(0));
    }

    private static void checksumAtFirst() {
        long want = 7;
        for (int i = 0; i < 12; i++) {
            want = 31 * want;
        }
        for (int i = 0; i < 6; i++) {
            want = 31 * want - 1;
        }
        for (int i = 0; i < 8; i++) {
            want = 31 * want;
        }
        Due.is("checksum at first", new Checkdraw().checksum(), want);
    }

    private static void checksumOfAll() {
        Checkdraw x = new Checkdraw();
        for (int i = 0; i < 6; i++) {
            Due.fill(x, i, 20 * i);
        }
        for (int i = 0; i < 5; i++) {
            x.make(i, i, i);
            x.below(i, 5, i + 1);
        }
        for (int i = 0; i < 3; i++) {
            for (int j = 0; j <= i; j++) {
                x.put(i, j, j, i);
            }
        }
        long want = 7;
        for (int i = 0; i < 6; i++) {
            want = 31 * want + x.length(i);
            want = 31 * want + x.check(i);
        }
        for (int i = 0; i < 6; i++) {
            want = 31 * want + (i == 5 ? -1 : x.asked(i));
        }
        for (int i = 0; i < 4; i++) {
            want = 31 * want + x.size(i);
            want = 31 * want + x.storeCheck(i);
        }
        Due.is("checksum of all", x.checksum(), want);
        Due.is("checksum again", x.checksum(), want);
    }

    private static void isSound() {
        Checkdraw x = new Checkdraw();
        Due.yes("isSound at first", x.isSound());
        x.make(0, 1, 2);
        for (int i = 0; i < 6; i++) {
            Due.fill(x, i, 24 * i);
        }
        for (int i = 0; i < 40; i++) {
            x.put(i % 4, i * 13 % 40, i, 0);
        }
        Due.yes("isSound with all filled", x.isSound());
        long before = x.checksum();
        x.isSound();
        Due.is("isSound changes nothing", x.checksum(), before);
    }
}
