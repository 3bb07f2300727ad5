/** Promises 1 to 3 and 13 to 15: a new object, make, push, root, about, word. */
public final class ObjectsTest {
    private static final Due DUE = new Due();

    public static void main(String[] args) {
        newObjectIsEmpty();
        sizesAreTheNearest();
        limitsAreTheNearest();
        bufferIsTheNearest();
        make();
        makeThrows();
        makeCollectsBeforeItIsFull();
        newFieldsAreNullWhateverLayThere();
        makeEndsWithTheFirstCollectionThatIsEnough();
        makeNeedsTheLastCollection();
        push();
        pushThrows();
        pushEndsWhenFull();
        pushPutsBehindTheCollections();
        root();
        about();
        aboutThrows();
        word();
        DUE.end();
    }

    private static void newObjectIsEmpty() {
        StoreNotes x = new StoreNotes(16, 0, 0, 2);
        for (int what = 0; what <= 24; what++) {
            int asked = what;
            DUE.is("new count(" + what + ")", 0, () -> x.count(asked));
        }
        for (int root = 0; root < 16; root++) {
            int asked = root;
            DUE.is("new root(" + root + ")", 0, () -> x.root(asked));
        }
        for (int k = 0; k < 8; k++) {
            int asked = k;
            DUE.is("new row(6, " + k + ")", 0, () -> x.row(6, asked));
        }
        DUE.bounds("new word(1)", x, () -> x.word(1));
        DUE.is("no CODE", 0, x::scrap);
    }

    /** The second half of generation 0 begins behind the first one: a collection tells how long that is. */
    private static void sizesAreTheNearest() {
        int[][] cases = {{16, 16}, {15, 16}, {-5, 16}, {Integer.MIN_VALUE, 16}, {17, 17}, {127, 127}, {128, 128},
            {129, 128}, {Integer.MAX_VALUE, 128}};
        for (int[] known : cases) {
            StoreNotes x = new StoreNotes(known[0], 6, 6, 8);
            x.make(0, 0, 0, false);
            x.collect(0);
            DUE.is("SIZE of " + known[0], known[1] + 1, () -> x.root(0));
            StoreNotes y = new StoreNotes(known[0], 0, 0, 8);
            y.make(0, 0, 0, false);
            y.collect(0);
            DUE.is("generation 1 of " + known[0], 2 * known[1] + 1, () -> y.root(0));
            y.collect(1);
            DUE.is("generation 2 of " + known[0], 6 * known[1] + 1, () -> y.root(0));
            y.collect(2);
            DUE.is("the other half of 2 of " + known[0], 10 * known[1] + 1, () -> y.root(0));
        }
    }

    private static void limitsAreTheNearest() {
        int[][] cases = {{0, 1}, {-1, 1}, {Integer.MIN_VALUE, 1}, {1, 2}, {5, 6}, {6, 7}, {7, 7},
            {Integer.MAX_VALUE, 7}};
        for (int[] known : cases) {
            StoreNotes x = new StoreNotes(16, known[0], 6, 8);
            x.make(0, 0, 0, false);
            DUE.is("collections until it is PROMOTED at LIMIT 0 " + known[0], known[1],
                () -> collectionsUntil(x, 0, 1));
            StoreNotes y = new StoreNotes(16, 0, known[0], 8);
            y.make(0, 0, 0, false);
            y.collect(0);
            DUE.is("collections until it is PROMOTED at LIMIT 1 " + known[0], known[1],
                () -> collectionsUntil(y, 1, 2));
        }
    }

    private static int collectionsUntil(StoreNotes x, int collected, int generation) {
        int done = 0;
        while (done < 20 && x.about(0, 4) != generation) {
            x.collect(collected);
            done++;
        }
        return done;
    }

    private static void bufferIsTheNearest() {
        int[][] cases = {{2, 2}, {1, 2}, {0, 2}, {-9, 2}, {3, 3}, {64, 64}, {65, 64}, {Integer.MAX_VALUE, 64}};
        for (int[] known : cases) {
            StoreNotes x = new StoreNotes(16, 0, 0, known[0]);
            x.make(0, 1, 0, false);
            for (int k = 0; k < known[1]; k++) {
                x.put(0, 0, 0);
            }
            DUE.is("notes that a BUFFER of " + known[0] + " holds", known[1], () -> x.count(5));
            DUE.is("no OVERFLOW before it is full", 0, () -> x.count(12));
            x.put(0, 0, 0);
            DUE.is("one note behind the OVERFLOW", 1, () -> x.count(5));
            DUE.is("one OVERFLOW", 1, () -> x.count(12));
        }
    }

    private static void make() {
        StoreNotes x = new StoreNotes(32, 1, 1, 8);
        DUE.is("the first object", 1, () -> x.make(0, 6, -3, false));
        DUE.is("the next one lies behind it", 9, () -> x.make(15, 0, Integer.MAX_VALUE, true));
        DUE.is("into the same root", 11, () -> x.make(0, 1, 5, false));
        DUE.is("root 0", 11, () -> x.root(0));
        DUE.is("HEAD of 6 fields", 6, () -> x.word(1));
        DUE.is("LABEL", -3, () -> x.word(2));
        DUE.is("HEAD of a KEEN one", 64, () -> x.word(9));
        DUE.is("its LABEL", Integer.MAX_VALUE, () -> x.word(10));
        DUE.is("USED", 13, () -> x.count(0));
        DUE.is("WISHES", 1, () -> x.count(7));
        DUE.is("the wish", 9, () -> x.row(4, 0));
        DUE.is("making notes nothing", 0, () -> x.count(5));
    }

    private static void makeThrows() {
        StoreNotes x = new StoreNotes(32, 1, 1, 8);
        x.make(0, 1, 1, true);
        DUE.bounds("make(-1, ..)", x, () -> x.make(-1, 2, 0, false));
        DUE.bounds("make(16, ..)", x, () -> x.make(16, 2, 0, false));
        DUE.bounds("make(MAX, ..)", x, () -> x.make(Integer.MAX_VALUE, 2, 0, false));
        DUE.bounds("a wrong root is told before wrong fields", x, () -> x.make(16, 7, 0, false));
        DUE.argument("make of -1 fields", x, () -> x.make(0, -1, 0, true));
        DUE.argument("make of 7 fields", x, () -> x.make(0, 7, 0, true));
        DUE.argument("make of MIN fields", x, () -> x.make(15, Integer.MIN_VALUE, 0, true));
    }

    private static void makeCollectsBeforeItIsFull() {
        StoreNotes x = new StoreNotes(16, 6, 6, 8);
        x.make(0, 6, 1, false);
        DUE.is("just fits", 9, () -> x.make(1, 6, 2, false));
        DUE.is("no collection", 0, () -> x.count(9));
        DUE.is("FULL", 0, () -> x.make(2, 0, 3, true));
        DUE.is("a root keeps what it has when it is FULL", 0, () -> x.root(2));
        DUE.is("no wish of what was not made", 0, () -> x.count(7));
        for (int what = 9; what <= 11; what++) {
            int asked = what;
            DUE.is("collections were made, count(" + what + ")", 1, () -> x.count(asked));
        }
        DUE.is("three times 16 words", 48, () -> x.count(13));
        DUE.is("the AGE behind them", 3, () -> x.about(0, 1));
        x.move(1, -1);
        DUE.is("a collection of 0 is enough", 9, () -> x.make(1, 6, 4, false));
        DUE.is("of 0", 2, () -> x.count(9));
        DUE.is("not of 1", 1, () -> x.count(10));
    }

    private static void newFieldsAreNullWhateverLayThere() {
        StoreNotes x = new StoreNotes(16, 6, 6, 64);
        x.make(0, 6, 0, false);
        for (int field = 0; field < 6; field++) {
            x.put(0, field, 0);
        }
        x.move(0, -1);
        x.collect(0);
        x.collect(0);
        DUE.is("where the first one lay", 1, () -> x.make(1, 6, 0, false));
        for (int what = 5; what <= 10; what++) {
            int asked = what;
            DUE.is("about(1, " + what + ")", 0, () -> x.about(1, asked));
        }
    }

    /** Generation 0 is full of what only a dead object of generation 1 leads to. */
    private static void makeEndsWithTheFirstCollectionThatIsEnough() {
        StoreNotes x = new StoreNotes(16, 1, 6, 8);
        x.make(0, 6, 0, false);
        x.collect(0);
        x.collect(0);
        for (int root = 1; root <= 2; root++) {
            x.make(root, 6, root, false);
            x.put(0, root, root);
            x.move(root, -1);
        }
        x.move(0, -1);
        DUE.is("a collection of 1 makes room", 1, () -> x.make(3, 0, 3, false));
        DUE.is("of 0 once more", 3, () -> x.count(9));
        DUE.is("of 1 once", 1, () -> x.count(10));
        DUE.is("of 2 never", 0, () -> x.count(11));
        DUE.is("nothing is left but the new one", 2, () -> x.count(0) + x.count(1) + x.count(2));
    }

    /** What is LEFT in generation 1 keeps generation 0 full until the collection of 2. */
    private static void makeNeedsTheLastCollection() {
        StoreNotes x = new StoreNotes(16, 0, 0, 8);
        x.push(0, 0, 12);
        DUE.is("generation 1 is full", 32, () -> x.count(1));
        DUE.is("generation 0 is full", 16, () -> x.count(0));
        DUE.is("a collection of 2 makes room", 17, () -> x.make(1, 0, 0, false));
        DUE.is("of 0 once more", 3, () -> x.count(9));
        DUE.is("of 1 once", 1, () -> x.count(10));
        DUE.is("of 2 once", 1, () -> x.count(11));
    }

    private static void push() {
        StoreNotes x = new StoreNotes(64, 1, 1, 8);
        DUE.is("push of one", 1, () -> x.push(3, 7, 1));
        DUE.is("its field 0 is NULL", 0, () -> x.about(3, 5));
        DUE.is("NULL is not noted", 0, () -> x.count(5));
        DUE.is("push of three", 3, () -> x.push(3, 10, 3));
        DUE.is("the last one", 13, () -> x.root(3));
        DUE.is("two fields", 2, () -> x.about(3, 0));
        DUE.is("LABEL of the last", 12, () -> x.about(3, 3));
        DUE.is("not KEEN", 0, () -> x.about(3, 2));
        DUE.is("it has the one before", 9, () -> x.about(3, 5));
        DUE.is("its field 1 is NULL", 0, () -> x.about(3, 6));
        DUE.is("LABEL of the first of three", 10, () -> x.word(6));
        DUE.is("that has the first one of all", 1, () -> x.word(7));
        DUE.is("three notes", 3, () -> x.count(5));
        DUE.is("the oldest note", 7, () -> x.row(2, 0));
        DUE.is("the youngest note", 15, () -> x.row(2, 2));
        x.push(4, Integer.MAX_VALUE, 2);
        DUE.is("LABELS wrap", Integer.MIN_VALUE, () -> x.about(4, 3));
    }

    private static void pushThrows() {
        StoreNotes x = new StoreNotes(64, 1, 1, 8);
        x.push(0, 1, 3);
        DUE.bounds("push(-1, ..)", x, () -> x.push(-1, 0, 1));
        DUE.bounds("push(16, ..)", x, () -> x.push(16, 0, 1));
        DUE.bounds("a wrong root is told before wrong times", x, () -> x.push(16, 0, 0));
        DUE.argument("push of 0", x, () -> x.push(0, 0, 0));
        DUE.argument("push of 41", x, () -> x.push(0, 0, 41));
        DUE.argument("push of -1", x, () -> x.push(15, 0, -1));
        DUE.is("push of 40", 40, () -> new StoreNotes(128, 0, 0, 2).push(0, 0, 40));
    }

    private static void pushEndsWhenFull() {
        StoreNotes x = new StoreNotes(16, 6, 6, 8);
        DUE.is("four objects of four words", 4, () -> x.push(0, 5, 40));
        DUE.is("the collections were made", 1, () -> x.count(11));
        DUE.is("the last one made", 8, () -> x.about(0, 3));
        DUE.is("none more", 0, () -> x.push(0, 5, 1));
    }

    private static void pushPutsBehindTheCollections() {
        StoreNotes x = new StoreNotes(16, 0, 0, 8);
        x.push(0, 1, 5);
        DUE.is("the fifth", 17, () -> x.root(0));
        DUE.is("it has the fourth where that is now", 33, () -> x.about(0, 5));
        DUE.is("LABEL of the fourth", 4, () -> x.word(34));
        DUE.is("the first one came last", 1, () -> x.word(46));
    }

    private static void root() {
        StoreNotes x = new StoreNotes(16, 0, 0, 2);
        x.make(15, 0, 0, false);
        DUE.is("root(15)", 1, () -> x.root(15));
        DUE.bounds("root(-1)", x, () -> x.root(-1));
        DUE.bounds("root(16)", x, () -> x.root(16));
        DUE.bounds("root(MIN)", x, () -> x.root(Integer.MIN_VALUE));
    }

    private static void about() {
        StoreNotes x = new StoreNotes(32, 1, 6, 8);
        x.make(1, 3, -7, true);
        x.make(2, 0, 9, false);
        x.put(1, 2, 2);
        x.collect(0);
        DUE.is("fields", 3, () -> x.about(1, 0));
        DUE.is("AGE", 1, () -> x.about(1, 1));
        DUE.is("KEEN", 1, () -> x.about(1, 2));
        DUE.is("not KEEN", 0, () -> x.about(2, 2));
        DUE.is("LABEL", -7, () -> x.about(1, 3));
        DUE.is("generation 0", 0, () -> x.about(1, 4));
        DUE.is("field 0", 0, () -> x.about(1, 5));
        DUE.is("field 2", 38, () -> x.about(1, 7));
        DUE.is("HEAD", 3 + 8 + 64, () -> x.word(33));
        x.collect(0);
        DUE.is("generation 1", 1, () -> x.about(1, 4));
        DUE.is("AGE is 0 again", 0, () -> x.about(1, 1));
        DUE.is("still KEEN", 1, () -> x.about(1, 2));
        for (int k = 0; k < 6; k++) {
            x.collect(1);
        }
        DUE.is("AGE 6", 6, () -> x.about(1, 1));
        x.collect(1);
        DUE.is("generation 2", 2, () -> x.about(1, 4));
        for (int k = 0; k < 9; k++) {
            x.collect(2);
        }
        DUE.is("AGE 7 at most", 7, () -> x.about(1, 1));
        DUE.is("no fields", 0, () -> x.about(2, 0));
    }

    private static void aboutThrows() {
        StoreNotes x = new StoreNotes(32, 1, 1, 8);
        x.make(0, 2, 1, false);
        x.make(2, 6, 1, false);
        DUE.bounds("about(-1, 0)", x, () -> x.about(-1, 0));
        DUE.bounds("about(16, 0)", x, () -> x.about(16, 0));
        DUE.bounds("about(0, -1)", x, () -> x.about(0, -1));
        DUE.bounds("about(0, MIN)", x, () -> x.about(0, Integer.MIN_VALUE));
        DUE.bounds("about(0, MIN + 5)", x, () -> x.about(0, Integer.MIN_VALUE + 5));
        DUE.bounds("about(0, 7)", x, () -> x.about(0, 7));
        DUE.bounds("about(0, MAX)", x, () -> x.about(0, Integer.MAX_VALUE));
        DUE.is("about(2, 10)", 0, () -> x.about(2, 10));
        DUE.bounds("about(2, 11)", x, () -> x.about(2, 11));
        DUE.state("about(1, 0)", x, () -> x.about(1, 0));
        DUE.state("NULL is told before a wrong what", x, () -> x.about(1, 99));
        DUE.bounds("a wrong root is told first", x, () -> x.about(16, 99));
    }

    private static void word() {
        StoreNotes x = new StoreNotes(16, 0, 0, 8);
        x.make(0, 1, 4, false);
        DUE.is("the last word that is taken", 0, () -> x.word(3));
        int[] none = {4, 0, -1, Integer.MIN_VALUE, 17, 33, 97, 224, 225, Integer.MAX_VALUE};
        for (int address : none) {
            DUE.bounds("word(" + address + ")", x, () -> x.word(address));
        }
        x.collect(0);
        DUE.is("in generation 1", 1, () -> x.word(33));
        DUE.bounds("FROM is no more", x, () -> x.word(1));
        x.collect(1);
        DUE.is("in generation 2", 4, () -> x.word(98));
        DUE.bounds("no more in 1", x, () -> x.word(33));
        x.collect(2);
        DUE.is("the other half of 2", 4, () -> x.word(162));
        DUE.bounds("not the first one", x, () -> x.word(98));
    }
}
