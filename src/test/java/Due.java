import java.util.function.Supplier;

/** What the tests ask with: each answer that is not due is printed, and ends the test with exit code 1. */
final class Due {
    private static String about = "";
    private static int wrong = 0;
    private static int asked = 0;

    private Due() {
    }

    /** What the next answers are about; it is printed with each of them that is not due. */
    static void about(String text) {
        about = text;
    }

    static void is(String call, Object got, Object want) {
        asked++;
        if (!got.equals(want)) {
            wrong++;
            System.out.println((about.isEmpty() ? "" : about + "\n  ") + call + " answered " + got + ", due is " + want);
        }
    }

    static void yes(String call, boolean got) {
        is(call, got, true);
    }

    static void no(String call, boolean got) {
        is(call, got, false);
    }

    /** What a call answers, or the name of what it throws. */
    static Object outcome(Supplier<?> asking) {
        try {
            return asking.get();
        } catch (RuntimeException e) {
            return "throws." + e.getClass().getSimpleName();
        }
    }

    static void end(String test) {
        System.out.println(test + ": " + asked + " answers, " + wrong + " not as due");
        if (wrong != 0 || asked == 0) {
            System.exit(1);
        }
    }

    // What several tests begin with.

    /** Adds the signs of a text, each as one byte. */
    static void write(Checkdraw house, int text, String signs) {
        for (int i = 0; i < signs.length(); i++) {
            house.add(text, signs.charAt(i));
        }
    }

    /** Fills a text up to so many bytes, unlike ones. */
    static void fill(Checkdraw house, int text, int many) {
        for (int i = house.length(text); i < many; i += 8) {
            house.addMore(text, Math.min(8, many - i), sign(i), sign(i + 1), sign(i + 2), sign(i + 3), sign(i + 4), sign(i + 5), sign(i + 6), sign(i + 7));
        }
    }

    /** The bytes of a text that was filled. */
    static byte[] filled(int many) {
        byte[] bytes = new byte[many];
        for (int i = 0; i < many; i++) {
            bytes[i] = (byte) sign(i);
        }
        return bytes;
    }

    private static int sign(int place) {
        return place * 37 + 11 & 255;
    }

    static byte[] bytesOf(Checkdraw house, int text) {
        byte[] bytes = new byte[house.length(text)];
        for (int i = 0; i < bytes.length; i++) {
            bytes[i] = (byte) house.byteAt(text, i);
        }
        return bytes;
    }

    static long libraryCheck(byte[] bytes) {
        java.util.zip.CRC32C check = new java.util.zip.CRC32C();
        check.update(bytes, 0, bytes.length);
        return check.getValue();
    }

    /** Asks a drawer until it was asked so often. */
    static void askUpTo(Checkdraw house, int drawer, int many) {
        for (int i = house.asked(drawer); i < many; i += 50) {
            house.below(drawer, 10, Math.min(50, many - i));
        }
    }
}
