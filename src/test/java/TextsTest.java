/** Promises 1 to 9: a new object, and texts as they are written, cut, copied, joined and turned. */
final class TextsTest {
    public static void main(String[] args) {
        newObject();
        add();
        addMore();
        cut();
        lengthAndByteAt();
        copy();
        join();
        flip();
        Due.end("TextsTest");
    }

    private static void newObject() {
        Checkdraw x = new Checkdraw();
        for (int i = 0; i < 6; i++) {
            int at = i;
            Due.is("length of a new text", x.length(i), 0);
            Due.is("check of a new text", x.check(i), 0L);
            Due.refused(x, Due.INDEX, "asked of a new house", () -> x.asked(at));
        }
        for (int i = 0; i < 4; i++) {
            Due.is("size of a new store", x.size(i), 0);
            Due.is("check of a new store", x.storeCheck(i), 0L);
        }
        Due.yes("isSound of a new house", x.isSound());
    }

    private static void add() {
        Checkdraw x = new Checkdraw();
        Due.is("add", x.add(5, 0), 1);
        Due.is("add", x.add(5, 255), 2);
        Due.is("the first byte", x.byteAt(5, 0), 0);
        Due.is("the second byte", x.byteAt(5, 1), 255);
        Due.is("another text", x.length(4), 0);
        for (int text : Due.NO_TEXT) {
            Due.refused(x, Due.INDEX, "add to no text", () -> x.add(text, 256));
        }
        Due.refused(x, Due.ARGUMENT, "add(0, -1)", () -> x.add(0, -1));
        Due.refused(x, Due.ARGUMENT, "add(0, 256)", () -> x.add(0, 256));
        Due.fill(x, 1, 119);
        Due.is("the last add", x.add(1, 7), 120);
        Due.refused(x, Due.STATE, "add to a full text", () -> x.add(1, 7));
        Due.refused(x, Due.ARGUMENT, "add a wrong byte to a full text", () -> x.add(1, 256));
    }

    private static void addMore() {
        Checkdraw x = new Checkdraw();
        Due.is("addMore of 1", x.addMore(0, 1, 9, -1, 256, -1, 256, -1, 256, -1), 1);
        Due.is("addMore of 8", x.addMore(0, 8, 0, 1, 2, 3, 4, 5, 6, 255), 9);
        int[] want = {9, 0, 1, 2, 3, 4, 5, 6, 255};
        for (int i = 0; i < want.length; i++) {
            Due.is("a byte of addMore", x.byteAt(0, i), want[i]);
        }
        for (int text : Due.NO_TEXT) {
            Due.refused(x, Due.INDEX, "addMore to no text", () -> x.addMore(text, 0, -1, 0, 0, 0, 0, 0, 0, 0));
        }
        for (int many : new int[] {0, 9, -1, Integer.MIN_VALUE, Integer.MAX_VALUE}) {
            Due.refused(x, Due.ARGUMENT, "addMore of " + many, () -> x.addMore(0, many, 0, 0, 0, 0, 0, 0, 0, 0));
        }
        for (int i = 0; i < 8; i++) {
            for (int sign : new int[] {-1, 256}) {
                int[] s = new int[8];
                s[i] = sign;
                int many = i + 1;
                Due.refused(x, Due.ARGUMENT, "addMore with a wrong byte", () -> x.addMore(0, many, s[0], s[1], s[2], s[3], s[4], s[5], s[6], s[7]));
                if (i > 0) {
                    Due.is("addMore does not look behind", x.addMore(1, i, s[0], s[1], s[2], s[3], s[4], s[5], s[6], s[7]), i);
                    x.cut(1, 0);
                }
            }
        }
        Due.fill(x, 2, 112);
        Due.is("addMore up to the end", x.addMore(2, 8, 1, 1, 1, 1, 1, 1, 1, 1), 120);
        Due.refused(x, Due.STATE, "addMore over the end", () -> x.addMore(2, 1, 1, 1, 1, 1, 1, 1, 1, 1));
        x.cut(2, 113);
        Due.refused(x, Due.STATE, "addMore one too many", () -> x.addMore(2, 8, 1, 1, 1, 1, 1, 1, 1, 1));
        Due.refused(x, Due.ARGUMENT, "addMore wrong and too many", () -> x.addMore(2, 8, 1, 1, 1, 1, 1, 1, 1, 256));
        Due.is("its length", x.length(2), 113);
    }

    private static void cut() {
        Checkdraw x = new Checkdraw();
        Due.is("cut of an empty text", x.cut(0, 0), 0);
        Due.write(x, 0, "abcdef");
        Due.is("cut of none", x.cut(0, 6), 0);
        Due.is("cut of two", x.cut(0, 4), 2);
        Due.is("length after it", x.length(0), 4);
        Due.is("check after it", x.check(0), Due.libraryCheck("abcd".getBytes()));
        Due.refused(x, Due.ARGUMENT, "cut(0, 5)", () -> x.cut(0, 5));
        Due.refused(x, Due.ARGUMENT, "cut(0, -1)", () -> x.cut(0, -1));
        for (int text : Due.NO_TEXT) {
            Due.refused(x, Due.INDEX, "cut of no text", () -> x.cut(text, -1));
        }
        Due.is("cut of all", x.cut(0, 0), 4);
        Due.is("add after it", x.add(0, 65), 1);
        Due.is("the byte", x.byteAt(0, 0), 65);
    }

    private static void lengthAndByteAt() {
        Checkdraw x = new Checkdraw();
        Due.write(x, 3, "xyz");
        Due.is("length", x.length(3), 3);
        Due.is("byteAt(3, 0)", x.byteAt(3, 0), (int) 'x');
        Due.is("byteAt(3, 2)", x.byteAt(3, 2), (int) 'z');
        for (int text : Due.NO_TEXT) {
            Due.refused(x, Due.INDEX, "length of no text", () -> x.length(text));
            Due.refused(x, Due.INDEX, "byteAt of no text", () -> x.byteAt(text, -1));
        }
        for (int place : new int[] {-1, 3, Integer.MIN_VALUE, Integer.MAX_VALUE}) {
            Due.refused(x, Due.NO_SUCH, "byteAt(3, " + place + ")", () -> x.byteAt(3, place));
        }
        x.cut(3, 1);
        Due.refused(x, Due.NO_SUCH, "byteAt behind a cut", () -> x.byteAt(3, 1));
    }

    private static void copy() {
        Checkdraw x = new Checkdraw();
        Due.write(x, 0, "first");
        Due.write(x, 1, "a longer one");
        Due.is("copy", x.copy(0, 1), 5);
        Due.is("its bytes", new String(Due.bytesOf(x, 1)), "first");
        x.flip(1, 0);
        Due.is("the other one stays", new String(Due.bytesOf(x, 0)), "first");
        Due.is("copy to itself", x.copy(0, 0), 5);
        Due.is("copy of an empty one", x.copy(2, 0), 0);
        for (int text : Due.NO_TEXT) {
            Due.refused(x, Due.INDEX, "copy of no text", () -> x.copy(text, 0));
            Due.refused(x, Due.INDEX, "copy to no text", () -> x.copy(0, text));
        }
    }

    private static void join() {
        Checkdraw x = new Checkdraw();
        Due.write(x, 0, "ab");
        Due.write(x, 1, "cde");
        Due.is("join", x.join(0, 1, 2), 5);
        Due.is("its bytes", new String(Due.bytesOf(x, 2)), "abcde");
        Due.is("join to the first one", x.join(0, 1, 0), 5);
        Due.is("its bytes", new String(Due.bytesOf(x, 0)), "abcde");
        Due.is("join to the second one", x.join(0, 1, 1), 8);
        Due.is("its bytes", new String(Due.bytesOf(x, 1)), "abcdecde");
        Due.is("join of one with itself to itself", x.join(1, 1, 1), 16);
        Due.is("its bytes", new String(Due.bytesOf(x, 1)), "abcdecdeabcdecde");
        Due.is("join of empty ones", x.join(3, 4, 1), 0);
        for (int text : Due.NO_TEXT) {
            Due.refused(x, Due.INDEX, "join of no first", () -> x.join(text, 0, 0));
            Due.refused(x, Due.INDEX, "join of no second", () -> x.join(0, text, 0));
            Due.refused(x, Due.INDEX, "join to no text", () -> x.join(0, 0, text));
        }
        Due.fill(x, 4, 60);
        Due.is("join up to the end", x.join(4, 4, 5), 120);
        x.add(4, 1);
        Due.refused(x, Due.STATE, "join over the end", () -> x.join(4, 4, 5));
        Due.refused(x, Due.INDEX, "join over the end to no text", () -> x.join(4, 4, 6));
    }

    private static void flip() {
        Checkdraw x = new Checkdraw();
        Due.refused(x, Due.NO_SUCH, "flip in an empty text", () -> x.flip(0, 0));
        x.add(0, 0);
        x.add(0, 255);
        Due.is("flip(0, 0)", x.flip(0, 0), 1);
        Due.is("flip(0, 7)", x.flip(0, 7), 129);
        Due.is("flip(0, 0)", x.flip(0, 0), 128);
        Due.is("flip(0, 8)", x.flip(0, 8), 254);
        Due.is("flip(0, 15)", x.flip(0, 15), 126);
        Due.is("byteAt(0, 1)", x.byteAt(0, 1), 126);
        for (int bit : new int[] {-1, 16, Integer.MIN_VALUE, Integer.MAX_VALUE}) {
            Due.refused(x, Due.NO_SUCH, "flip(0, " + bit + ")", () -> x.flip(0, bit));
        }
        for (int text : Due.NO_TEXT) {
            Due.refused(x, Due.INDEX, "flip in no text", () -> x.flip(text, -1));
        }
    }
}
