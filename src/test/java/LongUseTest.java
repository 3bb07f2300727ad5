/** "An object is used for at most 512 calls after it has been made": the last one of 512 is still answered. */
public final class LongUseTest {
    private static final Due DUE = new Due();

    public static void main(String[] args) {
        manyMakes();
        manySteps();
        manyMakesOfTheMachine();
        manyCollectionsOfAFullHeap();
        manyRefusedCalls();
        DUE.end();
    }

    /** 8 objects fill generation 0; from then on each 7th make() copies the one that is in the root. */
    private static void manyMakes() {
        StoreNotes x = new StoreNotes(16, 6, 6, 2);
        for (int k = 0; k < 508; k++) {
            x.make(0, 0, k, false);
        }
        DUE.is("call 509: where the last one is", 7, () -> x.root(0));
        DUE.is("call 510: COLLECTIONS", 72, () -> x.count(9));
        DUE.is("call 511: words copied", 144, () -> x.count(13));
        DUE.is("call 512: its LABEL", 507, () -> x.word(8));
    }

    private static void manySteps() {
        StoreNotes x = new StoreNotes(16, 6, 6, 2);
        Heaps.append(x, 8, 0, 0, 1, 12, 0, 0, 0, 7, 1, 1, 0);
        x.run(2, 1);
        for (int k = 0; k < 505; k++) {
            x.run(0, 400);
        }
        DUE.is("call 510: x 0", 101_000, () -> x.count(17));
        DUE.is("call 511: steps", 202_001, () -> x.count(15));
        DUE.is("call 512: still going on", 6, () -> x.run(0, 400));
    }

    /** Each run makes 200 objects of two words, and each 7th one copies the one before it. */
    private static void manyMakesOfTheMachine() {
        StoreNotes x = new StoreNotes(16, 6, 6, 2);
        Heaps.append(x, 1, 0, 0, 0, 12, 0, 0, 0);
        for (int k = 0; k < 507; k++) {
            x.run(0, 400);
        }
        DUE.is("call 510: COLLECTIONS", (200 * 507 - 8 + 6) / 7, () -> x.count(9));
        DUE.is("call 511: words copied", (200 * 507 - 8 + 6) / 7 * 2, () -> x.count(13));
        DUE.is("call 512: steps", 202_800, () -> x.count(15));
    }

    /** SIZE 128, all 896 words in a chain that root 0 begins: each make() makes three COLLECTIONS in vain. */
    private static void manyCollectionsOfAFullHeap() {
        StoreNotes x = new StoreNotes(128, 0, 0, 64);
        for (int round = 0; round < 6; round++) {
            x.push(0, 0, 32);
            x.collect(0);
            if (round == 1 || round == 3) {
                x.collect(1);
            }
        }
        x.push(0, 0, 32);
        for (int k = 0; k < 490; k++) {
            x.make(1, 0, 0, false);
        }
        int copiedByEach = 128 + (128 + 256) + (128 + 256 + 512);
        DUE.is("call 506: words copied", 6 * 128 + 2 * 256 + 490 * copiedByEach, () -> x.count(13));
        DUE.is("call 507: COLLECTIONS of 0", 496, () -> x.count(9));
        DUE.is("call 508: COLLECTIONS of 1", 492, () -> x.count(10));
        DUE.is("call 509: COLLECTIONS of 2", 490, () -> x.count(11));
        DUE.is("call 510: PROMOTED ever", 6 * 32 + 2 * 64, () -> x.count(14));
        DUE.is("call 511: root 1", 0, () -> x.root(1));
        DUE.is("call 512: still FULL", 0, () -> x.make(0, 6, 0, true));
    }

    private static void manyRefusedCalls() {
        StoreNotes x = Heaps.rich();
        StoreNotes y = Heaps.rich();
        for (int k = 0; k < 50; k++) {
            DUE.noSuch("root(16)", () -> x.root(16));
            DUE.noSuch("word(0)", () -> x.word(0));
        }
        DUE.same("nothing is changed", State.of(x), State.of(y));
    }
}
