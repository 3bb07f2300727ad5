/** Promises 12 and 16: collect and row, with the nine steps of a COLLECTION as the terms tell them. */
public final class CollectionTest {
    private static final Due DUE = new Due();

    public static void main(String[] args) {
        collectAnswersCopiedWords();
        collectThrows();
        rowThrows();
        rootsThenStackThenQueue();
        sharedObjectsAndRingsAreCopiedOnce();
        bufferIsFilteredFirst();
        filteredFieldsAreRememberedOnce();
        filteredFieldsThatAreNotRemembered();
        rememberedFieldsAreBroughtInOrder();
        rememberedFieldsChangeTheirRow();
        fieldsInBothRowsAreBroughtOnce();
        deadOldObjectsKeepYoungOnes();
        rowsAreMadeAnewWhenTheirFieldsMove();
        scanTakesTheLeastGenerationFirst();
        promotionByLimit();
        promotionNeedsRoom();
        leftKeepsItsRoom();
        roomGivenFreeIsTaken();
        wishesThatAreReached();
        wishesThatAreNot();
        wishesOfOlderGenerationsWait();
        wishesArePromotedToo();
        weakPlaces();
        weakPlacesOfOlderGenerations();
        DUE.end();
    }

    private static void drop(StoreNotes x, int... roots) {
        for (int root : roots) {
            x.move(root, StoreNotes.NONE);
        }
    }

    private static void collectAnswersCopiedWords() {
        StoreNotes x = new StoreNotes(32, 0, 0, 8);
        DUE.is("collect(2) of nothing", 0, () -> x.collect(2));
        x.make(0, 3, 0, false);
        x.make(1, 0, 0, false);
        x.make(1, 1, 0, false);
        DUE.is("collect(0)", 8, () -> x.collect(0));
        DUE.is("collect(0) of generation 1", 0, () -> x.collect(0));
        DUE.is("collect(1)", 8, () -> x.collect(1));
        drop(x, 0);
        DUE.is("collect(2)", 3, () -> x.collect(2));
        DUE.is("words copied ever", 19, () -> x.count(13));
        DUE.is("PROMOTED ever", 4, () -> x.count(14));
        DUE.is("of 0", 2, () -> x.count(9));
        DUE.is("of 1", 1, () -> x.count(10));
        DUE.is("of 2", 2, () -> x.count(11));
        DUE.is("USED of 2", 3, () -> x.count(2));
    }

    private static void collectThrows() {
        StoreNotes x = new StoreNotes(32, 0, 0, 8);
        x.push(0, 0, 3);
        DUE.argument("collect(-1)", x, () -> x.collect(-1));
        DUE.argument("collect(3)", x, () -> x.collect(3));
        DUE.argument("collect(MIN)", x, () -> x.collect(Integer.MIN_VALUE));
    }

    private static void rowThrows() {
        StoreNotes x = new StoreNotes(32, 0, 0, 8);
        for (int row = 0; row < 6; row++) {
            int asked = row;
            DUE.bounds("row(" + row + ", 0) of nothing", x, () -> x.row(asked, 0));
        }
        x.make(0, 1, 0, true);
        x.put(0, 0, 0);
        x.keep(0);
        for (int row = 2; row <= 4; row++) {
            int asked = row;
            DUE.is("row(" + row + ", 0)", row == 2 ? 3 : 1, () -> x.row(asked, 0));
            DUE.bounds("row(" + row + ", 1)", x, () -> x.row(asked, 1));
            DUE.bounds("row(" + row + ", -1)", x, () -> x.row(asked, -1));
        }
        DUE.bounds("row(6, 8)", x, () -> x.row(6, 8));
        DUE.bounds("row(6, -1)", x, () -> x.row(6, -1));
        DUE.bounds("row(7, 0)", x, () -> x.row(7, 0));
        DUE.bounds("row(-1, 0)", x, () -> x.row(-1, 0));
    }

    private static void rootsThenStackThenQueue() {
        StoreNotes x = new StoreNotes(32, 6, 6, 8);
        x.make(0, 0, 1, true);
        drop(x, 0);
        x.collect(0);
        x.make(3, 0, 3, false);
        x.make(1, 0, 4, false);
        x.make(2, 0, 5, false);
        x.make(4, 0, 6, false);
        x.keep(4);
        x.keep(2);
        drop(x, 2, 4);
        DUE.is("words", 10, () -> x.collect(0));
        DUE.is("root 1", 1, () -> x.root(1));
        DUE.is("root 3", 3, () -> x.root(3));
        DUE.is("the lowest place", 5, () -> x.row(3, 0));
        DUE.is("its LABEL", 6, () -> x.word(6));
        DUE.is("the next place", 7, () -> x.row(3, 1));
        DUE.is("the QUEUE", 9, () -> x.row(5, 0));
        DUE.is("its LABEL", 1, () -> x.word(10));
    }

    private static void sharedObjectsAndRingsAreCopiedOnce() {
        StoreNotes x = new StoreNotes(32, 6, 6, 8);
        x.make(0, 2, 1, false);
        x.make(1, 2, 2, false);
        x.put(0, 0, 1);
        x.put(0, 1, 0);
        x.put(1, 1, 0);
        x.move(2, 1);
        DUE.is("words", 8, () -> x.collect(0));
        DUE.is("root 2 has what root 1 has", 37, () -> x.root(2));
        DUE.is("root 1", 37, () -> x.root(1));
        DUE.is("the field that has its object", 33, () -> x.about(0, 6));
        DUE.is("the field that leads back", 33, () -> x.about(1, 6));
        drop(x, 0, 1, 2);
        DUE.is("a ring is no root", 0, () -> x.collect(0));
    }

    /** An object of generation 1 with two fields in root 0 at 65 (fields 67, 68), generation 0 is empty. */
    private static StoreNotes withOld(int limit0, int limit1, int buffer) {
        StoreNotes x = new StoreNotes(32, limit0, limit1, buffer);
        x.make(0, 2, 100, false);
        for (int k = 0; k <= limit0; k++) {
            x.collect(0);
        }
        return x;
    }

    private static void bufferIsFilteredFirst() {
        StoreNotes x = withOld(1, 6, 8);
        x.make(1, 0, 1, false);
        x.put(0, 1, 1);
        drop(x, 1);
        DUE.is("not REMEMBERED before", 0, () -> x.count(3));
        DUE.is("it is copied", 2, () -> x.collect(0));
        DUE.is("the BUFFER is empty", 0, () -> x.count(5));
        DUE.is("that is no OVERFLOW", 0, () -> x.count(12));
        DUE.is("REMEMBERED", 1, () -> x.count(3));
        DUE.is("the field", 68, () -> x.row(0, 0));
        DUE.is("it follows", 33, () -> x.about(0, 6));
    }

    private static void filteredFieldsAreRememberedOnce() {
        StoreNotes x = withOld(1, 6, 2);
        x.make(1, 0, 1, false);
        x.put(0, 1, 1);
        x.put(0, 0, 1);
        x.put(0, 1, 1);
        DUE.is("both", 2, () -> x.count(3));
        DUE.is("the oldest note first", 68, () -> x.row(0, 0));
        DUE.is("then the other one", 67, () -> x.row(0, 1));
        x.put(0, 0, 1);
        x.put(0, 1, 1);
        DUE.is("OVERFLOWS", 2, () -> x.count(12));
        DUE.is("not twice", 2, () -> x.count(3));
    }

    private static void filteredFieldsThatAreNotRemembered() {
        StoreNotes x = withOld(1, 6, 3);
        x.make(1, 1, 1, false);
        x.put(0, 0, 1);
        x.put(0, 0, -1);
        x.put(0, 1, 0);
        x.put(1, 0, 0);
        x.put(1, 0, 1);
        DUE.is("FILTERED", 1, () -> x.count(12));
        DUE.is("NULL, the same generation and an older object", 0, () -> x.count(3) + x.count(4));
        DUE.is("the last note", 1, () -> x.count(5));
    }

    /** Roots 0 and 1: objects of two fields in generation 2 at 193 and in generation 1 at 129. */
    private static StoreNotes withOldest(int limit0) {
        StoreNotes x = new StoreNotes(32, limit0, 0, 8);
        x.make(0, 2, 100, false);
        for (int k = 0; k <= limit0; k++) {
            x.collect(0);
        }
        x.collect(1);
        x.make(1, 2, 101, false);
        for (int k = 0; k <= limit0; k++) {
            x.collect(0);
        }
        return x;
    }

    private static void fillOldest(StoreNotes x) {
        x.make(2, 0, 2, false);
        x.make(3, 0, 3, false);
        x.make(4, 0, 4, false);
        x.put(0, 1, 3);
        x.put(1, 0, 2);
        x.put(0, 0, 1);
        x.put(1, 1, 0);
        drop(x, 2, 3);
    }

    private static void rememberedFieldsAreBroughtInOrder() {
        StoreNotes x = withOldest(1);
        DUE.is("generation 2", 193, () -> x.root(0));
        DUE.is("generation 1", 129, () -> x.root(1));
        fillOldest(x);
        x.collect(0);
        DUE.is("REMEMBERED 0 has two", 2, () -> x.count(3));
        DUE.is("the first note", 196, () -> x.row(0, 0));
        DUE.is("the second note", 131, () -> x.row(0, 1));
        DUE.is("REMEMBERED 1 has one", 1, () -> x.count(4));
        DUE.is("it", 195, () -> x.row(1, 0));
        DUE.is("brought behind the roots", 2, () -> x.about(0, 6) - x.root(4));
        DUE.is("brought last", 4, () -> x.about(1, 5) - x.root(4));
    }

    private static void rememberedFieldsChangeTheirRow() {
        StoreNotes x = withOldest(0);
        fillOldest(x);
        DUE.is("words", 6, () -> x.collect(0));
        DUE.is("the root first", 133, () -> x.root(4));
        DUE.is("then the first field", 135, () -> x.about(0, 6));
        DUE.is("then the second", 137, () -> x.about(1, 5));
        DUE.is("none has an object of generation 0", 0, () -> x.count(3));
        DUE.is("two have one of generation 1", 2, () -> x.count(4));
        DUE.is("that of row 0 first", 196, () -> x.row(1, 0));
        DUE.is("then that of row 1", 195, () -> x.row(1, 1));
        DUE.is("a collection of 1", 10, () -> x.collect(1));
        DUE.is("all are in generation 2", 14, () -> x.count(2));
        DUE.is("nothing is REMEMBERED", 0, () -> x.count(3) + x.count(4));
    }

    /** The second time the field has a new address, the very first one behind FROM: no object in FROM. */
    private static void fieldsInBothRowsAreBroughtOnce() {
        StoreNotes x = new StoreNotes(32, 6, 6, 2);
        for (int k = 0; k < 14; k++) {
            if (k == 0 || k == 7) {
                x.make(k / 7, 2, 100 + k, false);
            }
            x.collect(k < 7 ? 0 : 1);
        }
        DUE.is("generation 2", 193, () -> x.root(0));
        DUE.is("generation 1", 1, () -> x.about(1, 4));
        x.make(2, 0, 2, false);
        x.put(0, 0, 2);
        x.put(0, 0, 2);
        x.put(0, 0, 1);
        x.put(0, 0, 1);
        x.put(0, 0, 2);
        DUE.is("in REMEMBERED 0", 195, () -> x.row(0, 0));
        x.put(0, 0, 1);
        x.put(0, 0, 1);
        DUE.is("in REMEMBERED 1", 195, () -> x.row(1, 0));
        x.put(0, 0, 2);
        drop(x, 2);
        DUE.is("FROM is the first half", 1, () -> x.about(0, 5));
        DUE.is("copied once", 2, () -> x.collect(0));
        DUE.is("the first one behind FROM", 33, () -> x.about(0, 5));
        DUE.is("REMEMBERED 0", 1, () -> x.count(3));
        DUE.is("not REMEMBERED 1 any more", 0, () -> x.count(4));
    }

    private static void deadOldObjectsKeepYoungOnes() {
        StoreNotes x = withOld(6, 6, 8);
        x.make(1, 0, 1, false);
        x.put(0, 0, 1);
        drop(x, 0, 1);
        DUE.is("a dead field is brought", 2, () -> x.collect(0));
        DUE.is("and REMEMBERED again", 67, () -> x.row(0, 0));
        DUE.is("until its own generation is collected", 0, () -> x.collect(1));
        DUE.is("nothing is REMEMBERED", 0, () -> x.count(3));
        DUE.is("nothing is there", 0, () -> x.count(0) + x.count(1));
    }

    private static void rowsAreMadeAnewWhenTheirFieldsMove() {
        StoreNotes x = withOld(6, 6, 8);
        x.make(1, 0, 1, false);
        x.put(0, 1, 1);
        x.put(0, 0, 1);
        DUE.is("words", 6, () -> x.collect(1));
        DUE.is("the object came to the other half", 129, () -> x.root(0));
        DUE.is("REMEMBERED by SCAN", 2, () -> x.count(3));
        DUE.is("field 0 first", 131, () -> x.row(0, 0));
        DUE.is("then field 1", 132, () -> x.row(0, 1));
    }

    private static void scanTakesTheLeastGenerationFirst() {
        StoreNotes x = new StoreNotes(32, 1, 6, 8);
        x.make(0, 2, 0, false);
        x.collect(0);
        x.make(1, 1, 1, false);
        x.make(2, 0, 2, false);
        x.make(3, 0, 3, false);
        x.put(1, 0, 2);
        x.put(0, 0, 3);
        drop(x, 2, 3);
        DUE.is("words", 11, () -> x.collect(0));
        DUE.is("PROMOTED", 65, () -> x.root(0));
        DUE.is("not PROMOTED", 1, () -> x.root(1));
        DUE.is("what the one in generation 0 has came first", 4, () -> x.about(1, 5));
        DUE.is("what the one in generation 1 has came last", 6, () -> x.about(0, 5));
        DUE.is("REMEMBERED", 67, () -> x.row(0, 0));
    }

    private static void promotionByLimit() {
        StoreNotes x = new StoreNotes(16, 2, 1, 8);
        x.make(0, 1, 0, true);
        int[][] due = {{0, 1}, {0, 2}, {1, 0}, {1, 1}, {2, 0}, {2, 1}, {2, 2}};
        for (int k = 0; k < due.length; k++) {
            int[] known = due[k];
            x.collect(2);
            DUE.is("generation behind " + (k + 1), known[0], () -> x.about(0, 4));
            DUE.is("AGE behind " + (k + 1), known[1], () -> x.about(0, 1));
        }
        DUE.is("PROMOTED ever", 2, () -> x.count(14));
        DUE.is("KEEN", 1, () -> x.about(0, 2));
        DUE.is("the wish follows", 1, () -> x.row(4, 0) == x.root(0) ? 1 : 0);
    }

    private static void promotionNeedsRoom() {
        StoreNotes x = new StoreNotes(16, 0, 6, 8);
        x.push(0, 0, 8);
        x.collect(0);
        DUE.is("generation 1 is full", 32, () -> x.count(1));
        x.make(1, 6, 50, false);
        for (int age = 1; age <= 9; age++) {
            int known = Math.min(age, 7);
            x.collect(0);
            DUE.is("it stays", 0, () -> x.about(1, 4));
            DUE.is("AGE", known, () -> x.about(1, 1));
        }
        drop(x, 0);
        x.collect(1);
        DUE.is("what is dead is LEFT", 0, () -> x.about(1, 4));
        DUE.is("generation 1 is empty", 0, () -> x.count(1));
        x.collect(1);
        DUE.is("there is room", 1, () -> x.about(1, 4));
        DUE.is("AGE", 0, () -> x.about(1, 1));
        DUE.is("PROMOTED ever", 9, () -> x.count(14));
    }

    private static StoreNotes withFullGenerationOne(int firstRoot, int youngRoot) {
        StoreNotes x = new StoreNotes(16, 0, 0, 8);
        for (int k = 0; k < 4; k++) {
            x.make(firstRoot + k, 6, k, false);
            if (k % 2 == 1) {
                x.collect(0);
            }
        }
        x.make(youngRoot, 6, 50, false);
        return x;
    }

    private static void leftKeepsItsRoom() {
        StoreNotes x = withFullGenerationOne(1, 0);
        DUE.is("words", 40, () -> x.collect(1));
        DUE.is("brought before the room was free", 0, () -> x.about(0, 4));
        DUE.is("the others are in 2", 32, () -> x.count(2));
        DUE.is("PROMOTED ever", 8, () -> x.count(14));
    }

    private static void roomGivenFreeIsTaken() {
        StoreNotes x = withFullGenerationOne(0, 4);
        DUE.is("words", 40, () -> x.collect(1));
        DUE.is("brought when the room was free", 1, () -> x.about(4, 4));
        DUE.is("the others are in 2", 32, () -> x.count(2));
        DUE.is("PROMOTED ever", 9, () -> x.count(14));
    }

    private static void wishesThatAreReached() {
        StoreNotes x = new StoreNotes(32, 6, 6, 8);
        x.make(0, 1, 1, true);
        x.make(1, 0, 2, true);
        x.make(2, 0, 3, true);
        x.put(0, 0, 2);
        drop(x, 2);
        x.collect(0);
        DUE.is("WISHES", 3, () -> x.count(7));
        DUE.is("the QUEUE is empty", 0, () -> x.count(8));
        DUE.is("the first", 33, () -> x.row(4, 0));
        DUE.is("the second", 36, () -> x.row(4, 1));
        DUE.is("the third", 38, () -> x.row(4, 2));
        DUE.is("it is KEEN", 64 + 8, () -> x.word(38));
    }

    /** The second one is judged before the SCAN of the first one that leads to it. */
    private static void wishesThatAreNot() {
        StoreNotes x = new StoreNotes(64, 6, 6, 8);
        x.make(0, 2, 1, true);
        x.make(1, 0, 2, true);
        x.make(2, 0, 3, false);
        x.make(3, 0, 4, true);
        x.put(0, 0, 1);
        x.put(0, 1, 2);
        drop(x, 0, 1, 2);
        DUE.is("words", 10, () -> x.collect(0));
        DUE.is("one wish stays", 1, () -> x.count(7));
        DUE.is("that which is reached", 65, () -> x.row(4, 0));
        DUE.is("two in the QUEUE", 2, () -> x.count(8));
        DUE.is("the first", 67, () -> x.row(5, 0));
        DUE.is("not KEEN any more", 2 + 8, () -> x.word(67));
        DUE.is("the second", 71, () -> x.row(5, 1));
        DUE.is("not KEEN any more", 8, () -> x.word(71));
        DUE.is("it has the second", 71, () -> x.word(69));
        DUE.is("what it leads to came last", 73, () -> x.word(70));
        DUE.is("the QUEUE keeps them", 10, () -> x.collect(0));
        DUE.is("and is as long", 2, () -> x.count(8));
        x.wish(5);
        drop(x, 5);
        DUE.is("the second is in the QUEUE still", 4, () -> x.collect(0));
        x.wish(5);
        drop(x, 5);
        DUE.is("no last wish twice", 2, () -> x.collect(0));
    }

    private static void wishesOfOlderGenerationsWait() {
        StoreNotes x = withOld(0, 6, 8);
        x.make(1, 0, 1, true);
        x.collect(0);
        x.make(2, 0, 2, true);
        drop(x, 1, 2);
        x.collect(0);
        DUE.is("the old one is a wish still", 69, () -> x.row(4, 0));
        DUE.is("WISHES", 1, () -> x.count(7));
        DUE.is("the young one is in the QUEUE", 71, () -> x.row(5, 0));
        x.collect(1);
        DUE.is("no WISHES", 0, () -> x.count(7));
        DUE.is("both are in the QUEUE", 2, () -> x.count(8));
        DUE.is("the young one first", 2, () -> x.word(x.row(5, 0) + 1));
        DUE.is("then the old one", 1, () -> x.word(x.row(5, 1) + 1));
    }

    private static void wishesArePromotedToo() {
        StoreNotes x = new StoreNotes(16, 0, 6, 8);
        x.make(0, 3, 1, true);
        drop(x, 0);
        x.collect(0);
        DUE.is("in generation 1", 33, () -> x.wish(0));
        DUE.is("AGE 0 and not KEEN", 3, () -> x.word(33));
        DUE.is("PROMOTED", 1, () -> x.count(14));
    }

    private static void weakPlaces() {
        StoreNotes x = new StoreNotes(32, 6, 6, 8);
        x.make(0, 1, 1, false);
        x.make(1, 0, 2, true);
        x.make(2, 0, 3, false);
        x.weak(0, 0);
        x.weak(1, 1);
        x.weak(2, 2);
        x.weak(7, 0);
        drop(x, 1, 2);
        x.collect(0);
        DUE.is("it was copied", 33, () -> x.row(6, 0));
        DUE.is("for its last wish", 36, () -> x.row(6, 1));
        DUE.is("it was not", 0, () -> x.row(6, 2));
        DUE.is("NULL stays", 0, () -> x.row(6, 3));
        DUE.is("the same one", 33, () -> x.row(6, 7));
    }

    private static void weakPlacesOfOlderGenerations() {
        StoreNotes x = withOld(0, 0, 8);
        x.weak(0, 0);
        drop(x, 0);
        x.collect(0);
        DUE.is("it does not lie in FROM", 65, () -> x.strong(0, 0));
        x.collect(1);
        DUE.is("PROMOTED", 193, () -> x.row(6, 0));
        drop(x, 0);
        x.collect(1);
        DUE.is("still there", 193, () -> x.row(6, 0));
        x.collect(2);
        DUE.is("gone", 0, () -> x.row(6, 0));
    }
}
