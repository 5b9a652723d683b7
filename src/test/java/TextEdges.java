/** The boundaries of promises 1 to 9: houses that are new, and texts. */
final class TextEdges {
    private static final String NO_TEXT = "Throws `IndexOutOfBoundsException` if there is no such text";
    private static final int[] WRONG_SIGNS = {-1, 256, Edge.LEAST, Edge.GREATEST};

    /** A text 0 of so many bytes, in a house in which other things are, too. */
    private static Edge.Scene of(int many) {
        return Edge.bytes(0, many).and(Edge.bytes(5, 3)).and(Edge.drawer(0, 2)).and(Edge.keys(3, 2, 0));
    }

    static void test() {
        newObject();
        add();
        addMore();
        addMoreSigns();
        cut();
        length();
        byteAt();
        copy();
        join();
        joinFull();
        flip();
    }

    private static void newObject() {
        Document.says(1, "Creates a house with empty texts and stores, without drawers.");
        Document.says(Document.TERMS, "There are the texts 0 to 5, rows of at most 120 bytes, empty at first.",
            "There are the drawers 0 to 5, none at first.", "There are the stores 0 to 3", "empty at first");
        for (int i = 0; i < 6; i++) {
            int at = i;
            Edge.answers(Edge.NEW, "length of the new text " + i, x -> x.length(at), 0);
            Edge.refuses(Edge.NEW, Edge.NO_SUCH, "byteAt in the new text " + i, x -> x.byteAt(at, 0));
            Edge.refuses(Edge.NEW, Edge.INDEX, "asked of the drawer " + i + " of a new house", x -> x.asked(at));
            Edge.answers(Edge.NEW, "whether there was a drawer " + i, x -> x.make(at, 0, 0), false);
        }
        for (int i = 0; i < 4; i++) {
            int at = i;
            Edge.answers(Edge.NEW, "size of the new store " + i, x -> x.size(at), 0);
            Edge.refuses(Edge.NEW, Edge.NO_SUCH, "keyAt in the new store " + i, x -> x.keyAt(at, 0));
        }
    }

    private static void add() {
        Document.says(2, NO_TEXT);
        Edge.range(of(3), Edge.INDEX, 0, 5, "add to the text", (x, n) -> x.add(n, 7));
        Document.says(2, "`sign`: the byte, 0 to 255", "Throws `IllegalArgumentException` if the byte is out of range");
        Edge.range(of(3), Edge.ARGUMENT, 0, 255, "add of the byte", (x, n) -> x.add(0, n));
        Edge.answers(Edge.NEW, "the byte 0 after it", x -> x.add(0, 0) + " " + x.byteAt(0, 0), "1 0");
        Edge.answers(Edge.NEW, "the byte 255 after it", x -> x.add(0, 255) + " " + x.byteAt(0, 0), "1 255");
        Document.says(2, "Throws `IllegalStateException` if it has 120");
        Edge.answers(of(0), "add to an empty text", x -> x.add(0, 7), 1);
        Edge.answers(of(118), "add to 118 bytes", x -> x.add(0, 7), 119);
        Edge.answers(of(119), "add to 119 bytes", x -> x.add(0, 7) + " " + x.byteAt(0, 119), "120 7");
        Edge.refuses(of(120), Edge.STATE, "add to a full text", x -> x.add(0, 7));
        Edge.answers(of(120), "add to another text", x -> x.add(1, 7), 1);
        Edge.answers(of(120), "add after a cut of one", x -> x.cut(0, 119) + x.add(0, 7), 121);
        Document.saysFirst(2);
        Edge.refuses(of(120), Edge.INDEX, "add of 256 to no text", x -> x.add(6, 256));
        Edge.refuses(of(120), Edge.ARGUMENT, "add of 256 to a full text", x -> x.add(0, 256));
        Edge.refuses(of(120), Edge.ARGUMENT, "add of -1 to a full text", x -> x.add(0, -1));
    }

    private static Object addSigns(Checkdraw x, int text, int many, int... s) {
        return x.addMore(text, many, s[0], s[1], s[2], s[3], s[4], s[5], s[6], s[7]);
    }

    /** The bytes 1 to 8, but for one of them. */
    private static int[] signsWith(int place, int sign) {
        int[] signs = {1, 2, 3, 4, 5, 6, 7, 8};
        signs[place] = sign;
        return signs;
    }

    private static void addMore() {
        Document.says(3, NO_TEXT);
        Edge.range(of(3), Edge.INDEX, 0, 5, "addMore to the text", (x, n) -> x.addMore(n, 1, 1, 2, 3, 4, 5, 6, 7, 8));
        Document.says(3, "`many`: how many of the next ones, 1 to 8", "Throws `IllegalArgumentException` if a number is out of range");
        Edge.range(of(3), Edge.ARGUMENT, 1, 8, "addMore of so many", (x, n) -> x.addMore(0, n, 1, 2, 3, 4, 5, 6, 7, 8));
        Edge.answers(Edge.NEW, "addMore of 1", x -> x.addMore(0, 1, 9, 2, 3, 4, 5, 6, 7, 8) + " " + x.byteAt(0, 0), "1 9");
        Edge.answers(Edge.NEW, "addMore of 8", x -> x.addMore(0, 8, 1, 2, 3, 4, 5, 6, 7, 9) + " " + x.byteAt(0, 7), "8 9");
        Document.says(3, "Throws `IllegalStateException` if it would have more than 120");
        for (int many = 1; many <= 8; many++) {
            int m = many;
            Edge.answers(of(120 - m), "addMore of the last " + m, x -> x.addMore(0, m, 1, 2, 3, 4, 5, 6, 7, 8) + " " + x.byteAt(0, 119), "120 " + m);
            Edge.refuses(of(121 - m), Edge.STATE, "addMore of " + m + ", one too many", x -> x.addMore(0, m, 1, 2, 3, 4, 5, 6, 7, 8));
            Edge.refuses(of(120), Edge.STATE, "addMore of " + m + " to a full text", x -> x.addMore(0, m, 1, 2, 3, 4, 5, 6, 7, 8));
        }
        Document.saysFirst(3);
        Edge.refuses(of(120), Edge.INDEX, "addMore of 0 to no text", x -> x.addMore(6, 0, 1, 2, 3, 4, 5, 6, 7, 8));
        Edge.refuses(of(120), Edge.INDEX, "addMore of a wrong byte to no text", x -> x.addMore(-1, 1, 256, 2, 3, 4, 5, 6, 7, 8));
        Edge.refuses(of(120), Edge.ARGUMENT, "addMore of 0 to a full text", x -> x.addMore(0, 0, 1, 2, 3, 4, 5, 6, 7, 8));
        Edge.refuses(of(120), Edge.ARGUMENT, "addMore of 9 to a full text", x -> x.addMore(0, 9, 1, 2, 3, 4, 5, 6, 7, 8));
        Edge.refuses(of(120), Edge.ARGUMENT, "addMore of a wrong last byte to a full text", x -> x.addMore(0, 8, 1, 2, 3, 4, 5, 6, 7, -1));
        Edge.refuses(of(120), Edge.STATE, "addMore to a full text, a wrong byte behind", x -> x.addMore(0, 7, 1, 2, 3, 4, 5, 6, 7, -1));
    }

    private static void addMoreSigns() {
        for (int place = 0; place < 8; place++) {
            int at = place;
            Document.says(3, "Throws `IllegalArgumentException` if a number is out of range");
            Edge.range(of(3), Edge.ARGUMENT, 0, 255, "addMore with, at " + at + ", the byte", (x, n) -> addSigns(x, 0, 8, signsWith(at, n)));
            Edge.range(of(3), Edge.ARGUMENT, 0, 255, "addMore with, as its last, at " + at + ", the byte", (x, n) -> addSigns(x, 0, at + 1, signsWith(at, n)));
            Document.says(3, "`h`: a byte; those that are not added are not looked at");
            for (int sign : WRONG_SIGNS) {
                for (int many = 1; many <= place; many++) {
                    int m = many;
                    Edge.answers(Edge.NEW, "addMore of " + m + ", behind them " + sign, x -> addSigns(x, 0, m, signsWith(at, sign)) + " " + x.byteAt(0, m - 1), m + " " + m);
                }
            }
        }
    }

    private static void cut() {
        Document.says(4, NO_TEXT);
        Edge.range(of(3), Edge.INDEX, 0, 5, "cut of the text", (x, n) -> x.cut(n, 0));
        Document.says(4, "`length`: how many of its first bytes stay, 0 to as many as it has", "Throws `IllegalArgumentException` if the number is out of range");
        for (int many : new int[] {0, 1, 2, 119, 120}) {
            Edge.range(of(many), Edge.ARGUMENT, 0, many, "cut of " + many + " bytes to", (x, n) -> x.cut(0, n));
            Edge.answers(of(many), "cut of all " + many, x -> x.cut(0, 0) + " " + x.length(0), many + " 0");
            Edge.answers(of(many), "cut of none of " + many, x -> x.cut(0, many) + " " + x.length(0), "0 " + many);
        }
        Edge.answers(of(120), "cut of the last one", x -> x.cut(0, 119) + " " + x.length(0), "1 119");
        Edge.refuses(of(120).and(x -> x.cut(0, 5)), Edge.ARGUMENT, "cut to one more than a cut left", x -> x.cut(0, 6));
        Document.saysFirst(4);
        Edge.refuses(of(3), Edge.INDEX, "cut of no text to -1", x -> x.cut(6, -1));
        Edge.refuses(of(3), Edge.INDEX, "cut of no text to 121", x -> x.cut(-1, 121));
    }

    private static void length() {
        Document.says(5, NO_TEXT);
        Edge.range(of(3), Edge.INDEX, 0, 5, "length of the text", (x, n) -> x.length(n));
        for (int many : new int[] {0, 1, 119, 120}) {
            Edge.answers(of(many), "length of " + many, x -> x.length(0), many);
        }
    }

    private static void byteAt() {
        Document.says(6, NO_TEXT);
        Edge.range(Edge.everyText(1), Edge.INDEX, 0, 5, "byteAt in the text", (x, n) -> x.byteAt(n, 0));
        Document.says(6, "`place`: its place, from 0", "Throws `NoSuchElementException` if there is no such place");
        for (int many : new int[] {1, 2, 119, 120}) {
            Edge.range(of(many), Edge.NO_SUCH, 0, many - 1, "byteAt in " + many + " bytes, at", (x, n) -> x.byteAt(0, n));
            Edge.answers(of(many), "the last byte of " + many, x -> x.byteAt(0, many - 1), (many - 1) * 37 + 11 & 255);
        }
        for (int place : new int[] {-1, 0, 1, 119, 120, Edge.LEAST, Edge.GREATEST}) {
            Edge.refuses(of(0), Edge.NO_SUCH, "byteAt in an empty text, at " + place, x -> x.byteAt(0, place));
        }
        Edge.refuses(of(120).and(x -> x.cut(0, 60)), Edge.NO_SUCH, "byteAt behind a cut", x -> x.byteAt(0, 60));
        Document.saysFirst(6);
        Edge.refuses(of(3), Edge.INDEX, "byteAt in no text, at -1", x -> x.byteAt(6, -1));
        Edge.refuses(of(3), Edge.INDEX, "byteAt in no text, at 120", x -> x.byteAt(-1, 120));
    }

    private static void copy() {
        Document.says(7, "Throws `IndexOutOfBoundsException` if there is no such text, for either");
        Edge.range(of(3), Edge.INDEX, 0, 5, "copy of the text", (x, n) -> x.copy(n, 1));
        Edge.range(of(3), Edge.INDEX, 0, 5, "copy to the text", (x, n) -> x.copy(0, n));
        Edge.refuses(of(3), Edge.INDEX, "copy of no text to no text", x -> x.copy(6, -1));
        Document.says(7, "Returns how many bytes it has.");
        Edge.answers(of(120), "copy of a full text to an empty one", x -> x.copy(0, 1) + " " + x.length(1) + " " + x.length(0), "120 120 120");
        Edge.answers(of(120), "copy of an empty text to a full one", x -> x.copy(1, 0) + " " + x.length(1) + " " + x.length(0), "0 0 0");
        Edge.answers(of(120), "copy of a full text to itself", x -> x.copy(0, 0) + " " + x.byteAt(0, 119), "120 62");
        Edge.answers(of(0), "copy of an empty text to itself", x -> x.copy(0, 0) + " " + x.length(0), "0 0");
    }

    private static void join() {
        Document.says(8, "Throws `IndexOutOfBoundsException` if there is no such text, for any");
        Edge.range(of(3), Edge.INDEX, 0, 5, "join of the first text", (x, n) -> x.join(n, 0, 1));
        Edge.range(of(3), Edge.INDEX, 0, 5, "join of the second text", (x, n) -> x.join(0, n, 1));
        Edge.range(of(3), Edge.INDEX, 0, 5, "join to the text", (x, n) -> x.join(0, 0, n));
        Document.says(8, "Returns how many bytes it has.", "as they are ahead of this");
        Edge.answers(of(0), "join of two empty texts", x -> x.join(0, 1, 5) + " " + x.length(5), "0 0");
        Edge.answers(of(0), "join of an empty text and itself, to itself", x -> x.join(0, 0, 0) + " " + x.length(0), "0 0");
        Edge.answers(of(2), "join of an empty text ahead", x -> x.join(1, 0, 1) + " " + x.byteAt(1, 0) + " " + x.byteAt(1, 1), "2 11 48");
        Edge.answers(of(2), "join of an empty text behind", x -> x.join(0, 1, 1) + " " + x.byteAt(1, 0) + " " + x.byteAt(1, 1), "2 11 48");
        Edge.answers(of(1), "join to the first one", x -> x.join(0, 5, 0) + " " + x.byteAt(0, 0) + " " + x.byteAt(0, 3), "4 11 85");
        Edge.answers(of(1), "join to the second one", x -> x.join(5, 0, 0) + " " + x.byteAt(0, 0) + " " + x.byteAt(0, 3), "4 11 11");
    }

    private static void joinFull() {
        Document.says(8, "Throws `IllegalStateException` if it would have more than 120");
        int[][] lengths = {{60, 60}, {120, 0}, {0, 120}, {119, 1}, {1, 119}, {120, 1}, {1, 120}, {61, 60}, {60, 61}, {120, 120}};
        for (int[] l : lengths) {
            for (int to = 0; to < 6; to++) {
                joinOf(l[0], l[1], to);
            }
        }
        Edge.refuses(of(120), Edge.STATE, "join of a full text and itself to itself", x -> x.join(0, 0, 0));
        Edge.refuses(of(61), Edge.STATE, "join of 61 bytes and themselves to themselves", x -> x.join(0, 0, 0));
        Edge.answers(of(60), "join of 60 bytes and themselves to themselves", x -> x.join(0, 0, 0), 120);
        Edge.refuses(of(118), Edge.STATE, "join of 3 and 118 bytes", x -> x.join(5, 0, 1));
        Edge.refuses(of(118), Edge.STATE, "join of 118 and 3 bytes", x -> x.join(0, 5, 1));
        Document.saysFirst(8);
        Edge.refuses(of(120), Edge.INDEX, "join of too many bytes to no text", x -> x.join(0, 5, 6));
        Edge.refuses(of(120), Edge.INDEX, "join of a full text and none to itself", x -> x.join(0, 6, 0));
        Edge.refuses(of(120), Edge.INDEX, "join of none and a full text to itself", x -> x.join(-1, 0, 0));
    }

    /** The texts 1 and 2, of so many bytes, are joined to another one, or to one of them. */
    private static void joinOf(int first, int second, int to) {
        Edge.Scene scene = Edge.bytes(1, first).and(Edge.bytes(2, second)).and(Edge.bytes(3, 9));
        String call = "join of " + first + " and " + second + " bytes to the text " + to;
        if (first + second <= 120) {
            Edge.answers(scene, call, x -> x.join(1, 2, to) + " " + x.length(to), first + second + " " + (first + second));
        } else {
            Edge.refuses(scene, Edge.STATE, call, x -> x.join(1, 2, to));
        }
    }

    private static void flip() {
        Document.says(9, NO_TEXT);
        Edge.range(Edge.everyText(1), Edge.INDEX, 0, 5, "flip in the text", (x, n) -> x.flip(n, 0));
        Document.says(9, "`bit`: 8 times the place of the byte, and the bit, from the lowest one, 0 to 7", "Throws `NoSuchElementException` if there is no such bit");
        for (int many : new int[] {1, 2, 119, 120}) {
            Edge.range(of(many), Edge.NO_SUCH, 0, 8 * many - 1, "flip in " + many + " bytes, the bit", (x, n) -> x.flip(0, n));
            int last = (many - 1) * 37 + 11 & 255;
            Edge.answers(of(many), "flip of the highest bit of the last of " + many, x -> x.flip(0, 8 * many - 1) + " " + x.byteAt(0, many - 1), (last ^ 128) + " " + (last ^ 128));
            Edge.answers(of(many), "flip of the lowest bit of the last of " + many, x -> x.flip(0, 8 * many - 8) + " " + x.byteAt(0, many - 1), (last ^ 1) + " " + (last ^ 1));
        }
        for (int bit : new int[] {-1, 0, 7, 8, 959, 960, Edge.LEAST, Edge.GREATEST}) {
            Edge.refuses(of(0), Edge.NO_SUCH, "flip in an empty text, the bit " + bit, x -> x.flip(0, bit));
        }
        Document.saysFirst(9);
        Edge.refuses(of(3), Edge.INDEX, "flip in no text, the bit -1", x -> x.flip(6, -1));
        Edge.refuses(of(3), Edge.INDEX, "flip in no text, the bit 960", x -> x.flip(-1, 960));
    }
}
