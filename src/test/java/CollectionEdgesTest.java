/** The sentences of "Terms" on COLLECTIONS and on TO MAKE that name an edge: each one stands above its test. */
public final class CollectionEdgesTest {
    private static final Due DUE = new Due();
    private static final int NONE = Heaps.NONE;

    public static void main(String[] args) {
        nothingToCollect();
        bufferIsFilteredAtFirst();
        generationsUpToG();
        rowsBeginAnew();
        rowsOfBeforeAreForgotten();
        rootsThenStackThenQueueThenRows();
        rowOfZeroThenRowOfOneThenScan();
        rowsOfGenerationsAboveG();
        youngerThen();
        broughtFieldsComeOnce();
        scanOfZeroBeforeOne();
        scanOfOneBeforeTwo();
        scanOfFieldsInOrder();
        scannedFieldsAreRemembered();
        scannedFieldsOfTheOldest();
        wishesOutsideFromStay();
        wishesBehindTheQueue();
        wishesLeadNowhereBeforeTheScan();
        wishesAreScanned();
        weakPlacesBehindTheLastScan();
        weakPlacesAtTheFirstAddress();
        weakPlacesOutsideFromStay();
        fromIsNoMore();
        copiedOnce();
        agesUpToSeven();
        limitsAreToBeExceeded();
        promotedByOneGeneration();
        fitsIntoOneThatIsNotCollected();
        fitsBesideWhatIsLeft();
        fitsBesideUsedAndLeft();
        leftIsLessWhenItsOwnWerePromoted();
        fitsIntoTwoThatIsNotCollected();
        fitsIntoTwoThatIsCollected();
        roomForItsOwnIsKept();
        makeWithoutACollection();
        makeWithOneCollection();
        makeWithTwoCollections();
        makeWithThreeCollections();
        makeWhenFull();
        DUE.end();
    }

    private static void row(String told, StoreNotes x, int row, String want) {
        DUE.same(told, State.row(x, row), want);
    }

    private static void roots(String told, StoreNotes x, int... due) {
        for (int root = 0; root < due.length; root++) {
            int asked = root;
            DUE.is("root " + root + " " + told, due[root], () -> x.root(asked));
        }
    }

    private static void used(String told, StoreNotes x, int... due) {
        for (int generation = 0; generation < due.length; generation++) {
            int asked = generation;
            DUE.is("USED of " + generation + " " + told, due[generation], () -> x.count(asked));
        }
    }

    private static void collections(String told, StoreNotes x, int... due) {
        for (int generation = 0; generation < due.length; generation++) {
            int asked = generation;
            DUE.is("COLLECTIONS of " + generation + " " + told, due[generation], () -> x.count(9 + asked));
        }
    }

    /** A COLLECTION of a heap, a BUFFER and rows that are empty. */
    private static void nothingToCollect() {
        for (int g = 0; g <= 2; g++) {
            int generation = g;
            StoreNotes x = new StoreNotes(16, 0, 0, 2);
            DUE.is("collect(" + g + ") of nothing", 0, () -> x.collect(generation));
            used("behind it", x, 0, 0, 0);
            collections("behind it", x, g == 0 ? 1 : 0, g == 1 ? 1 : 0, g == 2 ? 1 : 0);
            for (int what = 3; what <= 8; what++) {
                int asked = what;
                DUE.is("count(" + what + ")", 0, () -> x.count(asked));
            }
            for (int what = 12; what <= 16; what++) {
                int asked = what;
                DUE.is("count(" + what + ")", 0, () -> x.count(asked));
            }
        }
    }

    /** "1 the BUFFER is FILTERED": that is no OVERFLOW, even if all places are taken. */
    private static void bufferIsFilteredAtFirst() {
        StoreNotes x = Heaps.threeGenerations(2);
        x.put(2, 0, 0);
        x.put(1, 0, 0);
        Heaps.drop(x, 0);
        DUE.is("what the notes lead to is copied", 8, () -> x.collect(0));
        DUE.is("it came by the older note", 137, () -> x.about(2, 5));
        DUE.is("both have it", 137, () -> x.about(1, 5));
        DUE.is("no OVERFLOW", 0, () -> x.count(12));
        DUE.is("no notes", 0, () -> x.count(5));
    }

    /** "2 For each generation up to g the half that was IN USE is FROM, the other one IN USE and empty." */
    private static void generationsUpToG() {
        int[][] due = {{137, 129, 193}, {65, 201, 193}, {65, 321, 329}};
        int[][] words = {{0, 16, 8}, {0, 8, 16}, {0, 8, 16}};
        int[][] ages = {{0, 0, 0}, {0, 0, 0}, {0, 0, 1}};
        for (int g = 0; g <= 2; g++) {
            int generation = g;
            String told = "behind collect(" + g + ")";
            StoreNotes x = Heaps.threeGenerations(2);
            DUE.is("words copied", 8 * g + 8, () -> x.collect(generation));
            roots(told, x, due[g]);
            used(told, x, words[g]);
            for (int root = 0; root <= 2; root++) {
                int asked = root;
                DUE.is("AGE " + told, ages[g][root], () -> x.about(asked, 1));
            }
            DUE.is("the first half of 0 is IN USE " + told, 1, () -> x.make(3, 0, 0, false));
        }
    }

    /** "3 Both REMEMBERED rows are put aside, empty ones begin." */
    private static void rowsBeginAnew() {
        StoreNotes x = Heaps.threeGenerations(2);
        x.put(2, 0, 0);
        x.put(2, 1, 1);
        x.put(2, 2, 0);
        x.put(2, 3, 1);
        x.put(2, 0, NONE);
        x.put(2, 1, NONE);
        row("REMEMBERED 0 before", x, 0, " 195");
        row("REMEMBERED 1 before", x, 1, " 196");
        x.collect(0);
        row("REMEMBERED 0", x, 0, "");
        row("REMEMBERED 1", x, 1, " 197 198");
        x.collect(2);
        row("REMEMBERED 0 behind a collection of all", x, 0, "");
        row("REMEMBERED 1 behind a collection of all", x, 1, "");
    }

    /** The address 68 was REMEMBERED; a LABEL lies there since, which only looks like an address. */
    private static void rowsOfBeforeAreForgotten() {
        StoreNotes x = new StoreNotes(32, 0, 6, 2);
        x.make(0, 2, 0, false);
        x.collect(0);
        x.make(1, 0, 1, false);
        x.put(0, 1, 1);
        x.collect(0);
        Heaps.drop(x, 0, 1);
        x.make(0, 0, 2, false);
        x.make(1, 0, 33, false);
        Heaps.collect(x, 1, 2);
        DUE.is("the LABEL where the field was", 33, () -> x.word(68));
        x.collect(0);
        DUE.is("its word is an address", 33, () -> x.make(2, 0, 3, false));
        Heaps.drop(x, 2);
        DUE.is("nothing leads to that", 0, () -> x.collect(0));
        DUE.is("the LABEL stays", 33, () -> x.word(68));
    }

    /** "4 ROOTS by number, the STACK from its lowest place on, the QUEUE from its first on are BROUGHT. 5 .." */
    private static void rootsThenStackThenQueueThenRows() {
        StoreNotes x = new StoreNotes(32, 6, 6, 8);
        x.make(15, 2, 100, false);
        Heaps.collect(x, 0, 7);
        x.make(0, 0, 1, true);
        x.make(0, 0, 2, true);
        Heaps.drop(x, 0);
        x.collect(0);
        for (int root = 4; root >= 1; root--) {
            x.make(root, 0, 10 + root, false);
        }
        x.make(5, 0, 15, false);
        x.make(0, 1, 10, false);
        x.put(15, 0, 4);
        x.put(0, 0, 5);
        x.keep(2);
        x.keep(3);
        Heaps.drop(x, 2, 3, 4, 5);
        DUE.is("words", 17, () -> x.collect(0));
        roots("by number", x, 33, 36);
        row("the STACK", x, 3, " 38 40");
        DUE.is("its lowest place", 12, () -> x.word(39));
        row("the QUEUE", x, 5, " 42 44");
        DUE.is("its first", 1, () -> x.word(43));
        DUE.is("the REMEMBERED field", 46, () -> x.about(15, 5));
        DUE.is("SCAN", 48, () -> x.about(0, 5));
    }

    /** "5 Of the rows put aside, that of 0, then that of 1, each address in order .. 6 SCAN." */
    private static void rowOfZeroThenRowOfOneThenScan() {
        StoreNotes x = new StoreNotes(32, 0, 6, 8);
        x.make(15, 2, 0, false);
        x.collect(0);
        Heaps.collect(x, 1, 7);
        x.make(1, 1, 1, false);
        x.make(2, 0, 2, false);
        x.put(1, 0, 2);
        x.collect(0);
        x.make(3, 1, 3, false);
        x.make(4, 0, 4, false);
        x.put(3, 0, 4);
        x.put(15, 0, 1);
        x.put(15, 1, 3);
        Heaps.drop(x, 1, 2, 3, 4);
        DUE.is("words", 10, () -> x.collect(1));
        DUE.is("what row 0 leads to", 65, () -> x.about(15, 6));
        DUE.is("what row 1 leads to", 68, () -> x.about(15, 5));
        DUE.is("then the first one's field", 71, () -> x.word(67));
        DUE.is("then the second one's field", 73, () -> x.word(70));
        row("REMEMBERED 0", x, 0, "");
        row("REMEMBERED 1 in the same order", x, 1, " 196 195");
    }

    /** "if it lies in a generation above g" */
    private static void rowsOfGenerationsAboveG() {
        int[] copied = {8, 0, 0};
        int[] copiedByTheOldest = {8, 8, 0};
        int[] copiedOfOne = {0, 8, 0};
        for (int g = 0; g <= 2; g++) {
            int most = g;
            StoreNotes x = Heaps.threeGenerations(2);
            x.put(1, 0, 0);
            Heaps.drop(x, 0, 1, 2);
            DUE.is("by a field of 1, collect(" + g + ")", copied[g], () -> x.collect(most));
            StoreNotes y = Heaps.threeGenerations(2);
            y.put(2, 0, 0);
            Heaps.drop(y, 0, 1, 2);
            DUE.is("by a field of 2, collect(" + g + ")", copiedByTheOldest[g], () -> y.collect(most));
            StoreNotes z = Heaps.threeGenerations(2);
            z.put(2, 0, 1);
            Heaps.drop(z, 0, 1, 2);
            DUE.is("of 1 by a field of 2, collect(" + g + ")", copiedOfOne[g], () -> z.collect(most));
        }
    }

    /**
     * "if it is an object of a younger generation than the field's then, the field's address comes into that one's
     * row"
     */
    private static void youngerThen() {
        StoreNotes x = Heaps.threeGenerations(8);
        x.put(1, 0, 0);
        x.put(2, 0, 0);
        x.put(2, 1, 1);
        x.put(2, 2, 0);
        x.put(2, 2, 2);
        x.collect(0);
        DUE.is("PROMOTED", 137, () -> x.root(0));
        row("REMEMBERED 0", x, 0, "");
        row("REMEMBERED 1, not the field of 1", x, 1, " 195 196");
        StoreNotes y = new StoreNotes(32, 6, 6, 8);
        y.make(0, 1, 0, false);
        Heaps.collect(y, 0, 7);
        y.make(1, 0, 1, false);
        y.put(0, 0, 1);
        y.collect(0);
        row("it stayed in 0", y, 0, " 67");
        Heaps.collect(y, 0, 5);
        row("it is in 0 still", y, 0, " 67");
        y.collect(0);
        row("it came to 1", y, 0, "");
    }

    /** "(if it is not in it)": the field is in both rows that are put aside. */
    private static void broughtFieldsComeOnce() {
        StoreNotes x = Heaps.threeGenerations(2);
        x.put(2, 1, 1);
        x.put(0, 0, 0);
        x.put(0, 0, 0);
        x.put(2, 1, 0);
        x.put(0, 0, 0);
        row("REMEMBERED 0 before", x, 0, " 196");
        row("REMEMBERED 1 before", x, 1, " 196");
        DUE.is("copied once", 8, () -> x.collect(0));
        row("REMEMBERED 0", x, 0, "");
        row("REMEMBERED 1", x, 1, " 196");
        DUE.is("BROUGHT once", 137, () -> x.about(2, 6));
    }

    /** "of the least generation that has one, the first": what comes to 0 is scanned before the next one of 1. */
    private static void scanOfZeroBeforeOne() {
        StoreNotes x = new StoreNotes(32, 1, 6, 8);
        x.make(0, 1, 0, false);
        x.make(1, 1, 1, false);
        x.collect(0);
        for (int root = 2; root <= 5; root++) {
            x.make(root, root % 2 == 0 ? 1 : 0, root, false);
        }
        x.put(0, 0, 2);
        x.put(1, 0, 4);
        x.put(2, 0, 3);
        x.put(4, 0, 5);
        Heaps.drop(x, 2, 3, 4, 5);
        DUE.is("words", 16, () -> x.collect(0));
        roots("PROMOTED", x, 65, 68);
        DUE.is("what the first one has", 1, () -> x.about(0, 5));
        DUE.is("what that has", 4, () -> x.word(3));
        DUE.is("what the second one has", 6, () -> x.about(1, 5));
        DUE.is("what that has", 9, () -> x.word(8));
        row("REMEMBERED 0", x, 0, " 67 70");
    }

    private static void scanOfOneBeforeTwo() {
        StoreNotes x = new StoreNotes(32, 0, 6, 8);
        x.make(0, 1, 0, false);
        x.make(1, 1, 1, false);
        x.collect(0);
        Heaps.collect(x, 1, 7);
        for (int root = 2; root <= 5; root++) {
            x.make(root, root % 2 == 0 ? 1 : 0, root, false);
        }
        x.put(2, 0, 3);
        x.put(4, 0, 5);
        x.put(0, 0, 2);
        x.put(1, 0, 4);
        x.collect(0);
        Heaps.drop(x, 2, 3, 4, 5);
        DUE.is("words", 16, () -> x.collect(2));
        roots("in 2", x, 321, 324);
        DUE.is("what the first one has", 65, () -> x.about(0, 5));
        DUE.is("what that has", 68, () -> x.word(67));
        DUE.is("what the second one has", 70, () -> x.about(1, 5));
        DUE.is("what that has", 73, () -> x.word(72));
        row("REMEMBERED 1", x, 1, " 323 326");
    }

    /** "its fields in order are BROUGHT" */
    private static void scanOfFieldsInOrder() {
        StoreNotes x = new StoreNotes(32, 6, 6, 8);
        x.make(0, 6, 0, false);
        for (int root = 1; root <= 6; root++) {
            x.make(root, 0, root, false);
            x.put(0, 6 - root, root);
            Heaps.drop(x, root);
        }
        DUE.is("words", 20, () -> x.collect(0));
        for (int field = 0; field < 6; field++) {
            int asked = field;
            DUE.is("field " + field, 41 + 2 * field, () -> x.about(0, 5 + asked));
            DUE.is("its LABEL", 6 - field, () -> x.word(42 + 2 * asked));
        }
    }

    /** "those that have an object of a younger generation than its own come .. into that one's REMEMBERED row" */
    private static void scannedFieldsAreRemembered() {
        StoreNotes x = new StoreNotes(32, 1, 6, 8);
        x.make(0, 6, 0, false);
        x.collect(0);
        x.make(1, 0, 1, false);
        x.make(2, 0, 2, false);
        x.put(0, 0, 1);
        x.put(0, 2, 0);
        x.put(0, 3, 2);
        x.put(0, 4, 1);
        x.collect(0);
        roots("PROMOTED, not PROMOTED", x, 65, 1, 3);
        row("neither NULL nor itself", x, 0, " 67 70 71");
        row("REMEMBERED 1", x, 1, "");
    }

    private static void scannedFieldsOfTheOldest() {
        StoreNotes x = new StoreNotes(32, 1, 6, 8);
        x.make(0, 3, 0, false);
        Heaps.collect(x, 0, 2);
        Heaps.collect(x, 1, 7);
        x.make(1, 0, 1, false);
        Heaps.collect(x, 0, 2);
        x.make(2, 0, 2, false);
        x.put(0, 0, 0);
        x.put(0, 1, 1);
        x.put(0, 2, 2);
        DUE.is("all words", 9, () -> x.collect(2));
        DUE.is("in 2", 321, () -> x.root(0));
        DUE.is("in 1", 1, () -> x.about(1, 4));
        DUE.is("in 0", 0, () -> x.about(2, 4));
        row("REMEMBERED 0", x, 0, " 325");
        row("REMEMBERED 1", x, 1, " 324");
    }

    /** "7 WISHES in order, of those that lie in FROM": copied, not copied, and one that does not lie there. */
    private static void wishesOutsideFromStay() {
        StoreNotes x = new StoreNotes(32, 0, 6, 8);
        x.make(0, 0, 1, true);
        x.collect(0);
        x.make(0, 0, 2, true);
        x.make(1, 0, 3, true);
        Heaps.drop(x, 1);
        DUE.is("words", 4, () -> x.collect(0));
        row("WISHES", x, 4, " 65 67");
        row("the QUEUE", x, 5, " 69");
        DUE.is("KEEN", 64, () -> x.word(65));
        DUE.is("KEEN", 64, () -> x.word(67));
        DUE.is("not KEEN any more", 0, () -> x.word(69));
        DUE.is("words", 6, () -> x.collect(1));
        row("WISHES", x, 4, " 129");
        row("the end of the QUEUE", x, 5, " 131 133");
        DUE.is("not KEEN any more", 8, () -> x.word(133));
    }

    /** What the QUEUE leads to was copied; an object that is no wish any more gets no second one. */
    private static void wishesBehindTheQueue() {
        StoreNotes x = new StoreNotes(32, 6, 6, 8);
        x.make(0, 1, 1, true);
        x.make(1, 0, 2, true);
        x.put(0, 0, 1);
        Heaps.drop(x, 0);
        x.collect(0);
        Heaps.drop(x, 1);
        DUE.is("words", 5, () -> x.collect(0));
        row("it is a wish still", x, 4, " 4");
        row("the QUEUE", x, 5, " 1");
        x.wish(0);
        Heaps.drop(x, 0);
        DUE.is("words", 2, () -> x.collect(0));
        row("no WISHES", x, 4, "");
        row("now it is in the QUEUE", x, 5, " 33");
        x.wish(0);
        Heaps.drop(x, 0);
        DUE.is("nothing is left", 0, () -> x.collect(0));
    }

    /** "of one that was not the object is BROUGHT": the second one is not yet copied, though the first leads to it. */
    private static void wishesLeadNowhereBeforeTheScan() {
        StoreNotes x = new StoreNotes(32, 6, 6, 8);
        x.make(0, 1, 1, true);
        x.make(1, 1, 2, true);
        x.put(0, 0, 1);
        x.put(1, 0, 0);
        Heaps.drop(x, 0, 1);
        DUE.is("words", 6, () -> x.collect(0));
        row("no WISHES", x, 4, "");
        row("both in order", x, 5, " 33 36");
        DUE.is("neither is KEEN", 9 + 9, () -> x.word(33) + x.word(36));
        DUE.is("they lead to one another", 36 + 33, () -> x.word(35) + x.word(38));
    }

    /** "Then SCAN." */
    private static void wishesAreScanned() {
        StoreNotes x = new StoreNotes(32, 1, 6, 8);
        x.make(0, 2, 1, true);
        x.collect(0);
        x.make(1, 1, 2, false);
        x.make(2, 0, 3, false);
        x.put(0, 1, 1);
        x.put(1, 0, 2);
        Heaps.drop(x, 0, 1, 2);
        DUE.is("words", 9, () -> x.collect(0));
        row("PROMOTED", x, 5, " 65");
        DUE.is("its field", 1, () -> x.word(68));
        DUE.is("the field of that", 4, () -> x.word(3));
        row("REMEMBERED by the last SCAN", x, 0, " 68");
    }

    /** "8 WEAK places, of those that lie in FROM: the new address if the object was copied, else NULL." */
    private static void weakPlacesBehindTheLastScan() {
        StoreNotes x = new StoreNotes(32, 6, 6, 8);
        x.make(0, 1, 1, true);
        x.make(1, 0, 2, false);
        x.make(2, 0, 3, false);
        x.make(3, 0, 4, false);
        x.put(0, 0, 1);
        for (int root = 0; root <= 3; root++) {
            x.weak(7 - root, root);
        }
        Heaps.drop(x, 0, 1, 2);
        x.collect(0);
        row("kept by a root, not at all, by a wish, by the wish's field", x, 6, " 0 0 0 0 33 0 38 35");
        x.wish(0);
        Heaps.drop(x, 0, 3);
        x.collect(0);
        row("none is kept", x, 6, " 0 0 0 0 0 0 0 0");
    }

    /** The least address that an object can come to. */
    private static void weakPlacesAtTheFirstAddress() {
        StoreNotes x = new StoreNotes(16, 6, 6, 2);
        x.make(0, 0, 0, true);
        x.weak(3, 0);
        Heaps.collect(x, 0, 2);
        row("WEAK places", x, 6, " 0 0 0 1 0 0 0 0");
        row("WISHES", x, 4, " 1");
        Heaps.drop(x, 0);
        Heaps.collect(x, 0, 2);
        row("WEAK places, led to by the QUEUE", x, 6, " 0 0 0 1 0 0 0 0");
        row("the QUEUE", x, 5, " 1");
    }

    private static void weakPlacesOutsideFromStay() {
        int[][] due = {{0, 129, 193}, {0, 0, 193}, {0, 0, 0}};
        for (int g = 0; g <= 2; g++) {
            StoreNotes x = Heaps.threeGenerations(2);
            for (int root = 0; root <= 2; root++) {
                x.weak(root, root);
            }
            Heaps.drop(x, 0, 1, 2);
            x.collect(g);
            row("behind collect(" + g + ")", x, 6, " " + due[g][0] + " " + due[g][1] + " " + due[g][2] + " 0 0 0 0 0");
        }
    }

    /** "9 FROM is no more." */
    private static void fromIsNoMore() {
        StoreNotes x = Heaps.threeGenerations(2);
        x.collect(2);
        int[] from = {33, 40, 129, 136, 193, 200};
        for (int address : from) {
            DUE.noSuch("word(" + address + ")", () -> x.word(address));
        }
        DUE.is("what was copied", 6, () -> x.word(321));
        x.collect(0);
        roots("that were copied before", x, 65, 321, 329);
    }

    /** "if it was not copied before, it is copied first": roots, the STACK, fields and itself lead to one object. */
    private static void copiedOnce() {
        StoreNotes x = new StoreNotes(16, 6, 6, 8);
        x.make(0, 2, 0, true);
        x.put(0, 0, 0);
        x.put(0, 1, 0);
        x.move(15, 0);
        x.keep(0);
        x.keep(0);
        x.weak(0, 0);
        DUE.is("words", 4, () -> x.collect(0));
        roots("where it is", x, 17);
        DUE.is("root 15", 17, () -> x.root(15));
        row("the STACK", x, 3, " 17 17");
        row("WISHES", x, 4, " 17");
        DUE.is("its fields", 34, () -> x.about(0, 5) + x.about(0, 6));
        DUE.is("AGE", 1, () -> x.about(0, 1));
    }

    /** "a = AGE + 1 (7 at most)": in generation 1 without room in 2, then in 2, where nothing is PROMOTED. */
    private static void agesUpToSeven() {
        StoreNotes x = new StoreNotes(16, 0, 0, 2);
        for (int root = 0; root <= 7; root++) {
            x.make(root, 6, root, false);
            x.collect(0);
            if (root == 3 || root == 7) {
                x.collect(1);
            }
        }
        x.make(8, 0, 8, false);
        x.collect(0);
        for (int k = 1; k <= 9; k++) {
            int age = Math.min(k, 7);
            x.collect(1);
            DUE.is("generation", 1, () -> x.about(8, 4));
            DUE.is("AGE", age, () -> x.about(8, 1));
        }
        Heaps.drop(x, 0);
        x.collect(2);
        DUE.is("the dead one was LEFT", 1, () -> x.about(8, 4));
        DUE.is("AGE", 7, () -> x.about(8, 1));
        x.collect(2);
        DUE.is("there is room", 2, () -> x.about(8, 4));
        DUE.is("AGE", 0, () -> x.about(8, 1));
        for (int k = 1; k <= 9; k++) {
            int age = Math.min(k, 7);
            x.collect(2);
            DUE.is("AGE in 2", age, () -> x.about(8, 1));
        }
        DUE.is("PROMOTED ever", 8 + 8 + 2, () -> x.count(14));
    }

    /** "a is above the LIMIT of its own" */
    private static void limitsAreToBeExceeded() {
        for (int limit = 0; limit <= 6; limit++) {
            StoreNotes x = new StoreNotes(16, limit, 6 - limit, 2);
            x.make(0, 0, 0, false);
            staysUpTo(x, 0, limit);
            staysUpTo(x, 1, 6 - limit);
        }
    }

    private static void staysUpTo(StoreNotes x, int generation, int limit) {
        String told = " in " + generation + " at LIMIT " + limit;
        for (int k = 1; k <= limit; k++) {
            int age = k;
            x.collect(generation);
            DUE.is("AGE" + told, age, () -> x.about(0, 1));
            DUE.is("generation" + told, generation, () -> x.about(0, 4));
        }
        x.collect(generation);
        DUE.is("PROMOTED" + told, generation + 1, () -> x.about(0, 4));
        DUE.is("with AGE 0" + told, 0, () -> x.about(0, 1));
        DUE.is("PROMOTED ever" + told, generation + 1, () -> x.count(14));
    }

    /** "it goes to the end of the next generation": by one in a COLLECTION, whatever that collects. */
    private static void promotedByOneGeneration() {
        StoreNotes x = new StoreNotes(16, 0, 0, 2);
        x.make(0, 0, 0, false);
        x.collect(2);
        DUE.is("from 0 to 1", 65, () -> x.root(0));
        x.collect(2);
        DUE.is("from 1 to 2", 97, () -> x.root(0));
        x.collect(2);
        DUE.is("2 is the last", 161, () -> x.root(0));
        DUE.is("PROMOTED", 2, () -> x.count(14));
    }

    /** Objects of so many fields that nothing leads to come to a generation; all that they need is LIMITS 0. */
    private static void fillWithDead(StoreNotes x, int generation, int... fields) {
        for (int n : fields) {
            x.make(9, n, 0, false);
            x.collect(0);
            if (generation == 2) {
                x.collect(1);
            }
        }
        Heaps.drop(x, 9);
    }

    private static final int[][] DEAD_OF_ONE = {{6, 6, 6}, {6, 6, 5, 0}, {6, 6, 6, 4}, {6, 6, 6, 5}, {6, 6, 6, 6}};
    private static final int[] YOUNG_FIELDS = {6, 6, 0, 0, 0};
    private static final int[] COMES_TO = {1, 0, 1, 0, 0};

    /** "It FITS if USED of that generation and its size are not more than SIZE": also what is dead is USED. */
    private static void fitsIntoOneThatIsNotCollected() {
        for (int k = 0; k < DEAD_OF_ONE.length; k++) {
            StoreNotes x = new StoreNotes(16, 0, 6, 2);
            fillWithDead(x, 1, DEAD_OF_ONE[k]);
            x.make(0, YOUNG_FIELDS[k], 0, false);
            int before = x.count(14);
            x.collect(0);
            comesTo("USED, case " + k, x, 0, COMES_TO[k], before);
        }
    }

    private static void comesTo(String told, StoreNotes x, int root, int generation, int promotedBefore) {
        DUE.is("generation by " + told, generation, () -> x.about(root, 4));
        int own = generation == 0 ? 1 : 0;
        DUE.is("AGE by " + told, own, () -> x.about(root, 1));
        DUE.is("PROMOTED by " + told, 1 - own, () -> x.count(14) - promotedBefore);
    }

    /** "and if that generation is collected, too (not above g), still not more together with what is LEFT of it" */
    private static void fitsBesideWhatIsLeft() {
        for (int k = 0; k < DEAD_OF_ONE.length; k++) {
            StoreNotes x = new StoreNotes(16, 0, 6, 2);
            fillWithDead(x, 1, DEAD_OF_ONE[k]);
            x.make(0, YOUNG_FIELDS[k], 0, false);
            int before = x.count(14);
            x.collect(1);
            comesTo("LEFT, case " + k, x, 0, COMES_TO[k], before);
            used("but for the new one " + k, x, COMES_TO[k] == 0 ? YOUNG_FIELDS[k] + 2 : 0);
        }
    }

    /** The object of 8 words that stays in generation 1 is BROUGHT before the young one, or behind it. */
    private static void fitsBesideUsedAndLeft() {
        int[][] dead = {{6, 6}, {6, 5, 0}};
        for (int k = 0; k < 2; k++) {
            for (int root = 0; root <= 1; root++) {
                StoreNotes x = new StoreNotes(16, 0, 6, 2);
                x.make(1 - root, 6, 1, false);
                x.collect(0);
                fillWithDead(x, 1, dead[k]);
                x.make(root, 6, 2, false);
                int before = x.count(14);
                DUE.is("words", 16, () -> x.collect(1));
                comesTo("USED and LEFT, case " + k, x, root, 1 - k, before);
                int old = 1 - root;
                DUE.is("the other one is in 1", 1, () -> x.about(old, 4));
                DUE.is("with AGE 1", 1, () -> x.about(old, 1));
            }
        }
    }

    /** "words of all objects in its FROM that were not copied": those that were PROMOTED are not LEFT. */
    private static void leftIsLessWhenItsOwnWerePromoted() {
        int[][] fields = {{6, 6, 6, 6}, {5, 6, 6, 5, 0}};
        for (int k = 0; k < 2; k++) {
            for (int root = 0; root <= 1; root++) {
                StoreNotes x = new StoreNotes(16, 0, 0, 2);
                x.make(1 - root, fields[k][0], 1, false);
                x.collect(0);
                for (int n = 1; n < fields[k].length; n++) {
                    fillWithDead(x, 1, fields[k][n]);
                }
                DUE.is("generation 1 is full", 32, () -> x.count(1));
                x.make(root, 6, 2, false);
                int before = x.count(14);
                x.collect(1);
                int old = 1 - root;
                DUE.is("the old one is PROMOTED", 2, () -> x.about(old, 4));
                comesTo("what is LEFT behind it, case " + k, x, root, root == 1 && k == 0 ? 1 : 0, before + 1);
            }
        }
    }

    private static final int[][] DEAD_OF_TWO = {{6, 6, 6, 6, 6, 6, 6}, {6, 6, 6, 6, 6, 6, 5, 0}};

    private static StoreNotes withDeadOfTwo(int k) {
        StoreNotes x = new StoreNotes(16, 0, 0, 2);
        fillWithDead(x, 2, DEAD_OF_TWO[k]);
        DUE.is("USED of 2", 56 + k, () -> x.count(2));
        x.make(0, 6, 0, false);
        x.collect(0);
        return x;
    }

    private static void fitsIntoTwoThatIsNotCollected() {
        for (int k = 0; k < 2; k++) {
            StoreNotes x = withDeadOfTwo(k);
            x.collect(1);
            int generation = 2 - k;
            DUE.is("generation by USED of 2", generation, () -> x.about(0, 4));
            DUE.is("AGE", k, () -> x.about(0, 1));
            used("as far as it fits", x, 0, 8 * k, 64 - 7 * k);
        }
    }

    private static void fitsIntoTwoThatIsCollected() {
        for (int k = 0; k < 2; k++) {
            StoreNotes x = withDeadOfTwo(k);
            x.collect(2);
            int generation = 2 - k;
            DUE.is("generation by what is LEFT of 2", generation, () -> x.about(0, 4));
            DUE.is("AGE", k, () -> x.about(0, 1));
            used("without the dead", x, 0, 8 * k, 8 - 8 * k);
        }
    }

    /** "else to the end of its own": those that come behind one that was PROMOTED fill the half to its last word. */
    private static void roomForItsOwnIsKept() {
        StoreNotes x = new StoreNotes(16, 0, 6, 2);
        for (int root = 1; root <= 3; root++) {
            x.make(root, 6, root, false);
            x.collect(0);
        }
        x.make(0, 6, 0, false);
        x.make(4, 6, 4, false);
        DUE.is("words", 40, () -> x.collect(1));
        roots("in the order of ROOTS", x, 65, 73, 81, 89, 1);
        used("to the last word", x, 8, 32, 0);
        DUE.is("the last word", 0, () -> x.word(96));
        DUE.is("no room for the last one", 1, () -> x.about(4, 1));
    }

    /** "if it does not fit into generation 0 (USED and its size are more than SIZE), a COLLECTION of 0" */
    private static void makeWithoutACollection() {
        int[] sizes = {16, 17, 18};
        for (int size : sizes) {
            StoreNotes x = new StoreNotes(size, 6, 6, 2);
            x.make(0, 6, 0, false);
            DUE.is("it fits", 9, () -> x.make(1, 6, 1, false));
            collections("none, SIZE " + size, x, 0, 0, 0);
            DUE.is("two words more, SIZE " + size, size == 18 ? 17 : 0, () -> x.make(2, 0, 2, false));
            int made = size == 18 ? 0 : 1;
            collections("if it does not fit, SIZE " + size, x, made, made, made);
        }
    }

    /** Roots 0 and 1 have objects of 8 - k and of 2 k words (none for k = 0); 8 - k words besides are dead. */
    private static void takeAll(StoreNotes x, int k) {
        x.make(0, 6 - k, 0, false);
        if (k == 1) {
            x.make(1, 0, 1, false);
        }
        x.make(2, 6 - k, 2, false);
        DUE.is("generation 0 is full", 16, () -> x.count(0));
    }

    /** Behind the collections 8 words are USED for k = 0, to that an object of 8 words fits; or 9 for k = 1. */
    private static void makesIfItFits(String told, StoreNotes x, int k, int... due) {
        DUE.is(told + " is enough, or FULL", k == 0 ? 1 : 0, () -> x.make(3, 6, 3, false) > 0 ? 1 : 0);
        used(told, x, k == 0 ? 16 : 9);
        collections(told, x, due[0], due[1], due[2]);
    }

    /** "if it still does not fit, of 1": not if it fits to the last word; but if it is one word too long. */
    private static void makeWithOneCollection() {
        for (int k = 0; k < 2; k++) {
            StoreNotes x = new StoreNotes(16, 6, 6, 8);
            takeAll(x, k);
            Heaps.drop(x, 2);
            makesIfItFits("a COLLECTION of 0", x, k, 1, k, k);
        }
    }

    /** The dead words are what a dead object of generation 1 leads to. */
    private static void makeWithTwoCollections() {
        for (int k = 0; k < 2; k++) {
            StoreNotes x = new StoreNotes(16, 6, 6, 8);
            x.make(15, 1, 0, false);
            Heaps.collect(x, 0, 7);
            takeAll(x, k);
            x.put(15, 0, 2);
            Heaps.drop(x, 2, 15);
            makesIfItFits("a COLLECTION of 1", x, k, 8, 1, k);
        }
    }

    /** "then of 2": the dead words are what a dead object of generation 2 leads to. */
    private static void makeWithThreeCollections() {
        for (int k = 0; k < 2; k++) {
            StoreNotes x = new StoreNotes(16, 6, 6, 8);
            x.make(15, 1, 0, false);
            Heaps.collect(x, 0, 7);
            Heaps.collect(x, 1, 7);
            takeAll(x, k);
            x.put(15, 0, 2);
            Heaps.drop(x, 2, 15);
            makesIfItFits("a COLLECTION of 2", x, k, 8, 8, 1);
        }
    }

    /** "if it does not fit then, it is not made (FULL)": root, WISHES and words are as the COLLECTIONS left them. */
    private static void makeWhenFull() {
        for (int fields = 0; fields <= 6; fields++) {
            int n = fields;
            StoreNotes x = new StoreNotes(16, 6, 6, 2);
            StoreNotes y = new StoreNotes(16, 6, 6, 2);
            StoreNotes[] both = {x, y};
            for (StoreNotes each : both) {
                each.make(0, 5, 0, true);
                each.make(1, 6, 1, false);
                each.put(1, 0, 1);
            }
            DUE.is("FULL", 0, () -> x.make(1, n, 2, true));
            for (int g = 0; g <= 2; g++) {
                y.collect(g);
            }
            DUE.same("the state behind it", State.of(x), State.of(y));
        }
    }
}
