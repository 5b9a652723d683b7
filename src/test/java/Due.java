import java.util.function.Supplier;

/** What the tests ask with: each answer that is not due is printed, and ends the test with exit code 1. */
final class Due {
    static final Class<? extends RuntimeException> INDEX = IndexOutOfBoundsException.class;
    static final Class<? extends RuntimeException> ARGUMENT = IllegalArgumentException.class;
    static final Class<? extends RuntimeException> STATE = IllegalStateException.class;
    static final Class<? extends RuntimeException> UNSUPPORTED = UnsupportedOperationException.class;
    static final Class<? extends RuntimeException> NO_SUCH = java.util.NoSuchElementException.class;
    static final Class<? extends RuntimeException> ARITHMETIC = ArithmeticException.class;

    static final int[] NO_TEXT = {-1, 6, Integer.MIN_VALUE, Integer.MAX_VALUE};
    static final int[] NO_STORE = {-1, 4, Integer.MIN_VALUE, Integer.MAX_VALUE};

    private static int wrong = 0;
    private static int asked = 0;

    private Due() {
    }

    static void is(String call, Object got, Object want) {
        asked++;
        if (!got.equals(want)) {
            wrong++;
            System.out.println(call + " answered " + got + ", due is " + want);
        }
    }

    static void yes(String call, boolean got) {
        is(call, got, true);
    }

    static void no(String call, boolean got) {
        is(call, got, false);
    }

    /** The exception is thrown, just of this class, and what can be told of the house is as it was. */
    static void refused(Checkdraw house, Class<? extends RuntimeException> kind, String call, Supplier<?> asking) {
        long before = house.checksum();
        is(call, outcome(asking), "throws." + kind.getSimpleName());
        is(call + " and the checksum after it", house.checksum(), before);
    }

    static Object outcome(Supplier<?> asking) {
        try {
            return asking.get();
        } catch (RuntimeException e) {
            return "throws." + e.getClass().getSimpleName();
        }
    }

    static void end(String test) {
        System.out.println(test + ": " + asked + " answers, " + wrong + " not as due");
        if (wrong != 0 || asked == 0) {
            System.exit(1);
        }
    }

    // What several tests begin with.

    /** Adds the signs of a text, each as one byte. */
    static void write(Checkdraw house, int text, String signs) {
        for (int i = 0; i < signs.length(); i++) {
            house.add(text, signs.charAt(i));
        }
    }

    /** Fills a text up to so many bytes, unlike ones. */
    static void fill(Checkdraw house, int text, int many) {
        for (int i = house.length(text); i < many; i++) {
            house.add(text, i * 37 + 11 & 255);
        }
    }

    static byte[] bytesOf(Checkdraw house, int text) {
        byte[] bytes = new byte[house.length(text)];
        for (int i = 0; i < bytes.length; i++) {
            bytes[i] = (byte) house.byteAt(text, i);
        }
        return bytes;
    }

    static long libraryCheck(byte[] bytes) {
        java.util.zip.CRC32C check = new java.util.zip.CRC32C();
        check.update(bytes, 0, bytes.length);
        return check.getValue();
    }

    /** Asks a drawer until it was asked so often. */
    static void askUpTo(Checkdraw house, int drawer, int many) {
        for (int i = house.asked(drawer); i < many; i++) {
            house.below(drawer, 10, 1);
        }
    }
}
