import java.nio.charset.StandardCharsets;

/** Promises 2 to 9: texts as they are written, cut, copied, joined and turned. */
final class TextsTest {
    public static void main(String[] args) {
        add();
        addMore();
        cut();
        lengthAndByteAt();
        copy();
        join();
        flip();
        Due.end("TextsTest");
    }

    private static String signs(Checkdraw x, int text) {
        return new String(Due.bytesOf(x, text), StandardCharsets.ISO_8859_1);
    }

    private static void add() {
        Checkdraw x = new Checkdraw();
        for (int i = 0; i < 100; i++) {
            Due.is("add", x.add(5, i * 91 & 255), i + 1);
        }
        for (int i = 0; i < 100; i++) {
            Due.is("the byte at " + i, x.byteAt(5, i), i * 91 & 255);
        }
        Due.is("another text", x.length(4), 0);
    }

    private static void addMore() {
        Checkdraw x = new Checkdraw();
        Due.is("addMore of 3", x.addMore(0, 3, 9, 8, 7, 6, 5, 4, 3, 2), 3);
        Due.is("addMore of 8", x.addMore(0, 8, 10, 20, 30, 40, 50, 60, 70, 80), 11);
        int[] want = {9, 8, 7, 10, 20, 30, 40, 50, 60, 70, 80};
        for (int i = 0; i < want.length; i++) {
            Due.is("a byte of addMore", x.byteAt(0, i), want[i]);
        }
    }

    private static void cut() {
        Checkdraw x = new Checkdraw();
        Due.write(x, 0, "abcdef");
        Due.is("cut of two", x.cut(0, 4), 2);
        Due.is("its bytes", signs(x, 0), "abcd");
        Due.is("check after it", x.check(0), Due.libraryCheck("abcd".getBytes(StandardCharsets.ISO_8859_1)));
        Due.is("add after it", x.add(0, 'x'), 5);
        Due.is("its bytes", signs(x, 0), "abcdx");
    }

    private static void lengthAndByteAt() {
        Checkdraw x = new Checkdraw();
        Due.write(x, 3, "xyz");
        Due.is("length", x.length(3), 3);
        Due.is("byteAt(3, 0)", x.byteAt(3, 0), (int) 'x');
        Due.is("byteAt(3, 1)", x.byteAt(3, 1), (int) 'y');
        Due.is("byteAt(3, 2)", x.byteAt(3, 2), (int) 'z');
    }

    private static void copy() {
        Checkdraw x = new Checkdraw();
        Due.write(x, 0, "first");
        Due.write(x, 1, "a longer one");
        Due.is("copy", x.copy(0, 1), 5);
        Due.is("its bytes", signs(x, 1), "first");
        x.flip(1, 0);
        Due.is("the other one stays", signs(x, 0), "first");
        x.flip(0, 8);
        Due.is("the one stays", signs(x, 1), "girst");
    }

    private static void join() {
        Checkdraw x = new Checkdraw();
        Due.write(x, 0, "ab");
        Due.write(x, 1, "cde");
        Due.is("join", x.join(0, 1, 2), 5);
        Due.is("its bytes", signs(x, 2), "abcde");
        Due.is("join to the first one", x.join(0, 1, 0), 5);
        Due.is("its bytes", signs(x, 0), "abcde");
        Due.is("join to the second one", x.join(0, 1, 1), 8);
        Due.is("its bytes", signs(x, 1), "abcdecde");
        Due.is("join of one with itself to itself", x.join(1, 1, 1), 16);
        Due.is("its bytes", signs(x, 1), "abcdecdeabcdecde");
        Due.is("the first one stays", signs(x, 0), "abcde");
    }

    private static void flip() {
        Checkdraw x = new Checkdraw();
        x.add(0, 0);
        x.add(0, 255);
        Due.is("flip(0, 0)", x.flip(0, 0), 1);
        Due.is("flip(0, 7)", x.flip(0, 7), 129);
        Due.is("flip(0, 0) again", x.flip(0, 0), 128);
        Due.is("flip(0, 8)", x.flip(0, 8), 254);
        Due.is("flip(0, 15)", x.flip(0, 15), 126);
        Due.is("byteAt(0, 1)", x.byteAt(0, 1), 126);
        for (int bit = 0; bit < 16; bit++) {
            int before = x.byteAt(0, bit / 8);
            Due.is("flip of the bit " + bit, x.flip(0, bit), before ^ 1 << bit % 8);
        }
    }
}
