/** All that the face tells of an object's state, as a text. */
final class State {
    private static final int MOST_WORDS = 14 * 128;

    private State() {
    }

    static String of(StoreNotes x) {
        StringBuilder text = new StringBuilder("counts");
        for (int what = 0; what <= 24; what++) {
            text.append(' ').append(x.count(what));
        }
        text.append(" roots");
        for (int root = 0; root < 16; root++) {
            text.append(' ').append(x.root(root));
        }
        for (int row = 0; row <= 6; row++) {
            text.append(" row").append(row);
            int size = row == 6 ? 8 : x.count(3 + row);
            for (int k = 0; k < size; k++) {
                text.append(' ').append(x.row(row, k));
            }
        }
        text.append(" words");
        int taken = x.count(0) + x.count(1) + x.count(2);
        for (int address = 1; address <= MOST_WORDS && taken > 0; address++) {
            try {
                int word = x.word(address);
                text.append(' ').append(address).append(':').append(word);
                taken--;
            } catch (IndexOutOfBoundsException e) {
                // Not taken: nothing to tell.
            }
        }
        return text.toString();
    }
}
