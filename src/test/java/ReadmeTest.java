/** The example of README.md, call by call, with the answers that it tells. */
public final class ReadmeTest {
    private static final Due DUE = new Due();

    public static void main(String[] args) {
        StoreNotes heap = new StoreNotes(64, 1, 1, 8);
        DUE.is("make", 1, () -> heap.make(0, 2, 7, false));
        DUE.is("make, KEEN", 5, () -> heap.make(1, 0, 8, true));
        DUE.is("put", 0, () -> heap.put(0, 1, 1));
        DUE.is("move", 0, () -> heap.move(1, StoreNotes.NONE));
        DUE.is("collect", 6, () -> heap.collect(0));
        DUE.is("about", 7, () -> heap.about(0, 3));
        DUE.is("put of NONE", 69, () -> heap.put(0, 1, StoreNotes.NONE));
        DUE.is("collect again", 6, () -> heap.collect(0));
        DUE.is("wish", 133, () -> heap.wish(1));
        DUE.is("code, SET", 1, () -> heap.code(7, 0, 5, 0));
        DUE.is("code, NEW", 2, () -> heap.code(1, 2, 1, 0));
        DUE.is("run", 0, () -> heap.run(0, 400));
        DUE.is("about the new one", 5, () -> heap.about(2, 3));
        DUE.is("count", 2, () -> heap.count(15));
        DUE.end();
    }
}
