/** All that the face tells of an object's state, as a text. */
final class State {
    private static final int MOST_WORDS = 14 * 128;

    private State() {
    }

    static String of(StoreNotes x) {
        StringBuilder text = new StringBuilder(ofHeap(x)).append(" machine");
        for (int what = 15; what <= 24; what++) {
            text.append(' ').append(x.count(what));
        }
        return text.toString();
    }

    /** The same without the MACHINE's steps, PLACE and NUMBERS. */
    static String ofHeap(StoreNotes x) {
        StringBuilder text = new StringBuilder("counts");
        for (int what = 0; what <= 14; what++) {
            text.append(' ').append(x.count(what));
        }
        text.append(" roots");
        for (int root = 0; root < 16; root++) {
            text.append(' ').append(x.root(root));
        }
        for (int row = 0; row <= 6; row++) {
            text.append(" row").append(row).append(row(x, row));
        }
        text.append(" words");
        int taken = x.count(0) + x.count(1) + x.count(2);
        for (int address = 1; address <= MOST_WORDS && taken > 0; address++) {
            try {
                int word = x.word(address);
                text.append(' ').append(address).append(':').append(word);
                taken--;
            } catch (IndexOutOfBoundsException e) {
                // Not taken: nothing to tell.
            }
        }
        return text.toString();
    }

    /** The addresses of a row, each one behind a blank. */
    static String row(StoreNotes x, int row) {
        StringBuilder text = new StringBuilder();
        int size = row == 6 ? 8 : x.count(3 + row);
        for (int k = 0; k < size; k++) {
            text.append(' ').append(x.row(row, k));
        }
        return text.toString();
    }
}
