/** All promises, at their boundaries: each row of the document that names one is named by a test here. */
final class EdgesTest {
    public static void main(String[] args) {
        TextEdges.test();
        CheckEdges.test();
        DrawerEdges.test();
        StoreEdges.test();
        WholeEdges.test();
        Document.allNamed();
        Due.end("EdgesTest");
    }
}
