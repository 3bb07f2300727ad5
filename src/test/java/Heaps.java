/** Heaps that tests begin with. */
final class Heaps {
    static final int MAX = Integer.MAX_VALUE;
    static final int MIN = Integer.MIN_VALUE;
    static final int NONE = StoreNotes.NONE;

    private Heaps() {
    }

    static void drop(StoreNotes x, int... roots) {
        for (int root : roots) {
            x.move(root, NONE);
        }
    }

    static void collect(StoreNotes x, int generation, int times) {
        for (int k = 0; k < times; k++) {
            x.collect(generation);
        }
    }

    /** Four numbers an instruction. */
    static void append(StoreNotes x, int... numbers) {
        for (int k = 0; k + 3 < numbers.length; k += 4) {
            x.code(numbers[k], numbers[k + 1], numbers[k + 2], numbers[k + 3]);
        }
    }

    /**
     * SIZE 32, LIMITS 0. Root 0 has an object of six fields in generation 0 at 33 (fields from 35 on), root 1 one in
     * generation 1 at 129 (from 131 on), root 2 one in generation 2 at 193 (from 195 on).
     */
    static StoreNotes threeGenerations(int buffer) {
        StoreNotes x = new StoreNotes(32, 0, 0, buffer);
        x.make(2, 6, 102, false);
        x.collect(0);
        x.collect(1);
        x.make(1, 6, 101, false);
        x.collect(0);
        x.make(0, 6, 100, false);
        return x;
    }

    /** SIZE 16, and something everywhere: 3 instructions, fields in both REMEMBERED rows, notes, a wish, a QUEUE. */
    static StoreNotes rich() {
        StoreNotes x = new StoreNotes(16, 0, 0, 2);
        x.make(5, 0, 105, true);
        drop(x, 5);
        x.make(2, 2, 102, false);
        x.collect(0);
        x.collect(1);
        x.make(1, 2, 101, false);
        x.collect(0);
        x.make(0, 2, 100, true);
        x.put(1, 0, 0);
        x.put(2, 0, 1);
        x.put(2, 1, 0);
        x.put(0, 1, 2);
        x.keep(1);
        x.keep(9);
        x.weak(3, 0);
        append(x, 7, 0, 5, 0, 8, 1, 0, 0, 0, 0, 0, 0);
        x.run(0, 2);
        return x;
    }

    /** The same with a full STACK and 64 instructions. */
    static StoreNotes full() {
        StoreNotes x = rich();
        for (int k = x.count(6); k < 40; k++) {
            x.keep(1);
        }
        for (int k = 3; k < 64; k++) {
            x.code(12, 0, 0, 0);
        }
        return x;
    }

    /** Nothing but CODE. */
    static StoreNotes bare(int... code) {
        StoreNotes x = new StoreNotes(16, 0, 0, 2);
        append(x, code);
        return x;
    }
}
