/** Promises 1 to 20, call by call: the nearest numbers that are too small or too large, what is empty and what full. */
public final class CallEdgesTest {
    private static final Due DUE = new Due();
    private static final int MAX = Heaps.MAX;
    private static final int MIN = Heaps.MIN;
    private static final int NONE = Heaps.NONE;
    private static final String BOUNDS = "IndexOutOfBoundsException";
    private static final String ARGUMENT = "IllegalArgumentException";
    private static final String STATE = "IllegalStateException";
    private static final int[] NO_ROOTS = {-1, 16, MIN, MAX};
    private static final int[] NEITHER_ROOTS_NOR_NONE = {-2, 16, MIN, MAX};

    public static void main(String[] args) {
        nearestNumbers();
        nothingIsThere();
        makeRefuses();
        makeAtTheEdges();
        makeWhenFull();
        pushRefuses();
        pushAtTheEdges();
        pushUntilFull();
        pushIsMakeAndPut();
        putRefuses();
        putAtTheEdges();
        getRefuses();
        getAtTheEdges();
        moveRefuses();
        moveAtTheEdges();
        keepRefuses();
        backRefuses();
        keepAndBackAtTheEdges();
        weakRefuses();
        strongRefuses();
        weakAndStrongAtTheEdges();
        wishRefuses();
        wishOfAnEmptyQueue();
        collectRefuses();
        rootRefuses();
        aboutRefuses();
        aboutAtTheEdges();
        wordRefuses();
        rowRefuses();
        rowsAtTheEdges();
        codeRefuses();
        scrapAtTheEdges();
        runRefuses();
        countRefuses();
        DUE.end();
    }

    private static void refuses(String told, String name, Due.On call) {
        DUE.refuses(told, name, Heaps::rich, call);
    }

    /** What a heap of these numbers does: each of the four can be seen in it. */
    private static String behaviour(int size, int limit0, int limit1, int buffer) {
        StoreNotes x = new StoreNotes(size, limit0, limit1, buffer);
        StringBuilder text = new StringBuilder(State.of(x));
        x.make(0, 1, 0, true);
        for (int k = 0; k < 65; k++) {
            x.put(0, 0, 0);
        }
        text.append(x.count(5)).append(' ').append(x.count(12));
        for (int k = 0; k < 16; k++) {
            x.collect(1);
            text.append(' ').append(x.root(0));
        }
        text.append(' ').append(x.push(1, 0, 40)).append(' ').append(x.count(9)).append(' ').append(x.count(0));
        return text.toString();
    }

    /** "Promise 1: SIZE s of generation 0 (the nearest of 16 .. 128), LIMIT .. (the nearest of 0 .. 6 each) .." */
    private static void nearestNumbers() {
        int[][] sizes = {{15, 16}, {0, 16}, {-1, 16}, {MIN, 16}, {129, 128}, {MAX, 128}};
        for (int[] known : sizes) {
            DUE.same("SIZE " + known[0], behaviour(known[0], 1, 1, 8), behaviour(known[1], 1, 1, 8));
        }
        int[][] limits = {{-1, 0}, {MIN, 0}, {7, 6}, {MAX, 6}};
        for (int[] known : limits) {
            DUE.same("LIMIT of 0 " + known[0], behaviour(16, known[0], 1, 8), behaviour(16, known[1], 1, 8));
            DUE.same("LIMIT of 1 " + known[0], behaviour(16, 1, known[0], 8), behaviour(16, 1, known[1], 8));
        }
        int[][] buffers = {{1, 2}, {0, 2}, {-1, 2}, {MIN, 2}, {65, 64}, {MAX, 64}};
        for (int[] known : buffers) {
            DUE.same("BUFFER " + known[0], behaviour(16, 1, 1, known[0]), behaviour(16, 1, 1, known[1]));
        }
        DUE.same("all too small", behaviour(MIN, MIN, MIN, MIN), behaviour(16, 0, 0, 2));
        DUE.same("all too large", behaviour(MAX, MAX, MAX, MAX), behaviour(128, 6, 6, 64));
        numbersWithinStay();
    }

    private static void numbersWithinStay() {
        int[] sizes = {16, 17, 127, 128};
        int[] limits = {0, 1, 5, 6};
        int[] buffers = {2, 3, 63, 64};
        for (int k = 1; k < 4; k++) {
            differ("SIZE", behaviour(sizes[k], 1, 1, 8), behaviour(sizes[k - 1], 1, 1, 8));
            differ("LIMIT of 0", behaviour(16, limits[k], 1, 8), behaviour(16, limits[k - 1], 1, 8));
            differ("LIMIT of 1", behaviour(16, 1, limits[k], 8), behaviour(16, 1, limits[k - 1], 8));
            differ("BUFFER", behaviour(16, 1, 1, buffers[k]), behaviour(16, 1, 1, buffers[k - 1]));
        }
    }

    private static void differ(String told, String one, String other) {
        DUE.is(told + " is not the same for other numbers", 0, () -> one.equals(other) ? 1 : 0);
    }

    /** "Nothing is there; no CODE." */
    private static void nothingIsThere() {
        StoreNotes x = new StoreNotes(16, 0, 0, 2);
        for (int what = 0; what <= 24; what++) {
            int asked = what;
            DUE.is("count(" + what + ")", 0, () -> x.count(asked));
        }
        for (int row = 0; row <= 5; row++) {
            int asked = row;
            DUE.noSuch("row(" + row + ", 0)", () -> x.row(asked, 0));
        }
        DUE.noSuch("word(1)", () -> x.word(1));
        DUE.is("an empty QUEUE", 0, () -> x.wish(0));
        DUE.is("nothing to copy", 0, () -> x.collect(2));
        DUE.is("the MACHINE has none any more", 0, () -> x.run(0, 0));
        DUE.is("no CODE", 0, x::scrap);
    }

    private static void makeRefuses() {
        for (int root : NO_ROOTS) {
            refuses("make, root " + root, BOUNDS, x -> x.make(root, 2, 0, true));
            refuses("make, wrong fields too, root " + root, BOUNDS, x -> x.make(root, 7, 0, true));
        }
        int[] fields = {-1, 7, MIN, MAX};
        for (int n : fields) {
            refuses("make, fields " + n, ARGUMENT, x -> x.make(0, n, 0, true));
        }
    }

    private static void makeAtTheEdges() {
        StoreNotes x = new StoreNotes(16, 0, 0, 2);
        DUE.is("the least of all", 1, () -> x.make(0, 0, MIN, false));
        DUE.is("the greatest of all", 3, () -> x.make(15, 6, MAX, true));
        DUE.is("LABEL", MIN, () -> x.about(0, 3));
        DUE.is("LABEL", MAX, () -> x.about(15, 3));
        DUE.is("KEEN alone is a wish", 1, () -> x.count(7));
        DUE.is("the wish", 3, () -> x.row(4, 0));
        DUE.is("one that no root has is still taken", 11, () -> x.make(0, 0, 0, false));
        DUE.is("USED", 12, () -> x.count(0));
    }

    /** "0 when it is FULL (the collections were made)": the root keeps what it has, which moved. */
    private static void makeWhenFull() {
        StoreNotes x = new StoreNotes(16, 6, 6, 2);
        x.make(0, 6, 0, false);
        x.make(15, 6, 1, false);
        DUE.is("FULL", 0, () -> x.make(15, 0, 2, true));
        DUE.is("root 15", 25, () -> x.root(15));
        DUE.is("its LABEL", 1, () -> x.about(15, 3));
        DUE.is("no wish", 0, () -> x.count(7));
        DUE.is("USED", 16, () -> x.count(0));
        for (int what = 9; what <= 11; what++) {
            int asked = what;
            DUE.is("count(" + what + ")", 1, () -> x.count(asked));
        }
    }

    private static void pushRefuses() {
        for (int root : NO_ROOTS) {
            refuses("push, root " + root, BOUNDS, x -> x.push(root, 0, 1));
            refuses("push, wrong times too, root " + root, BOUNDS, x -> x.push(root, 0, 41));
        }
        int[] wrong = {0, 41, -1, MIN, MAX};
        for (int times : wrong) {
            refuses("push, times " + times, ARGUMENT, x -> x.push(15, 0, times));
        }
    }

    private static void pushAtTheEdges() {
        StoreNotes x = new StoreNotes(128, 6, 6, 64);
        DUE.is("once", 1, () -> x.push(15, MIN, 1));
        DUE.is("LABEL", MIN, () -> x.about(15, 3));
        DUE.is("field 0 is NULL", 0, () -> x.about(15, 5));
        StoreNotes y = new StoreNotes(128, 0, 6, 64);
        DUE.is("40 times", 40, () -> y.push(0, MAX - 38, 40));
        DUE.is("LABELS wrap", MIN, () -> y.about(0, 3));
        DUE.is("160 words", 160, () -> y.count(0) + y.count(1));
        for (int k = 38; k >= 0; k--) {
            int label = MAX - 38 + k;
            y.get(0, 0, 0);
            DUE.is("LABEL of number " + k, label, () -> y.about(0, 3));
        }
        DUE.is("the first one has NULL", 0, () -> y.about(0, 5));
    }

    /** "How many were made (it ends when it is FULL)." */
    private static void pushUntilFull() {
        StoreNotes x = new StoreNotes(19, 6, 6, 2);
        DUE.is("as many as fit", 4, () -> x.push(0, 5, 40));
        DUE.is("USED", 16, () -> x.count(0));
        DUE.is("the last LABEL", 8, () -> x.about(0, 3));
        DUE.is("it ends with the first one that is not made", 3, () -> x.count(9) + x.count(10) + x.count(11));
        DUE.is("none", 0, () -> x.push(0, 5, 1));
        DUE.is("the root keeps what it has", 8, () -> x.about(0, 3));
        DUE.is("nothing is noted", 0, () -> x.count(5));
        DUE.is("the collections were made", 6, () -> x.count(9) + x.count(10) + x.count(11));
        StoreNotes y = new StoreNotes(20, 6, 6, 2);
        DUE.is("just as many as fit", 5, () -> y.push(0, 5, 5));
        DUE.is("no collections", 0, () -> y.count(9));
    }

    /** "an object of two fields is made (in no root) ..; its field 0 becomes what the root has (a PUT)" */
    private static void pushIsMakeAndPut() {
        StoreNotes x = new StoreNotes(16, 1, 1, 3);
        StoreNotes y = new StoreNotes(16, 1, 1, 3);
        x.push(4, -2, 15);
        for (int k = 0; k < 15; k++) {
            y.make(5, 2, k - 2, false);
            if (y.root(4) != 0) {
                y.put(5, 0, 4);
            }
            y.move(4, 5);
            Heaps.drop(y, 5);
        }
        DUE.same("the same by make and put", State.of(x), State.of(y));
        DUE.is("there were collections", 1, () -> x.count(9) > 0 && x.count(14) > 0 && x.count(12) > 0 ? 1 : 0);
    }

    private static void putRefuses() {
        for (int root : NO_ROOTS) {
            refuses("put, root " + root, BOUNDS, x -> x.put(root, 0, 1));
        }
        for (int other : NEITHER_ROOTS_NOR_NONE) {
            refuses("put, other root " + other, BOUNDS, x -> x.put(0, 0, other));
            refuses("put, other root and NULL " + other, BOUNDS, x -> x.put(9, 0, other));
            refuses("put, other root and field " + other, BOUNDS, x -> x.put(0, 2, other));
        }
        int[] none = {-1, 2, 6, MIN, MAX};
        for (int field : none) {
            refuses("put, field " + field, BOUNDS, x -> x.put(0, field, 1));
            refuses("put of NONE, field " + field, BOUNDS, x -> x.put(0, field, NONE));
            refuses("put, NULL before a wrong field " + field, STATE, x -> x.put(9, field, 1));
        }
        refuses("put, NULL", STATE, x -> x.put(9, 0, 1));
        refuses("put of NONE, NULL", STATE, x -> x.put(15, 0, NONE));
    }

    private static void putAtTheEdges() {
        StoreNotes x = new StoreNotes(16, 0, 0, 8);
        x.make(15, 6, 0, false);
        x.make(0, 0, 0, false);
        DUE.is("the first field", 0, () -> x.put(15, 0, 0));
        DUE.is("the last field", 0, () -> x.put(15, 5, 0));
        DUE.is("what it was", 9, () -> x.put(15, 5, 15));
        DUE.is("what it was", 1, () -> x.put(15, 5, NONE));
        DUE.is("NULL of a root", 9, () -> x.put(15, 0, 7));
        DUE.same("the notes", State.row(x, 2), " 3 8 8");
        DUE.noSuch("a field of an object of none", () -> x.put(0, 0, NONE));
        DUE.noSuch("the same by get", () -> x.get(0, 0, 0));
    }

    private static void getRefuses() {
        for (int root : NO_ROOTS) {
            refuses("get, root " + root, BOUNDS, x -> x.get(root, 0, 0));
            refuses("get, root and NULL " + root, BOUNDS, x -> x.get(root, 9, 0));
            refuses("get, other root " + root, BOUNDS, x -> x.get(0, root, 0));
        }
        int[] none = {-1, 2, 6, MIN, MAX};
        for (int field : none) {
            refuses("get, field " + field, BOUNDS, x -> x.get(1, 0, field));
            refuses("get, NULL before a wrong field " + field, STATE, x -> x.get(1, 9, field));
        }
        refuses("get, NULL", STATE, x -> x.get(0, 9, 0));
    }

    private static void getAtTheEdges() {
        StoreNotes x = new StoreNotes(16, 0, 0, 8);
        x.make(15, 6, 0, false);
        x.make(1, 0, 0, false);
        x.put(15, 5, 1);
        DUE.is("the last field", 9, () -> x.get(0, 15, 5));
        DUE.is("NULL", 0, () -> x.get(1, 15, 0));
        DUE.is("root 1 has NULL", 0, () -> x.root(1));
        DUE.is("into a root that has NULL", 9, () -> x.get(14, 15, 5));
        DUE.is("into its own root", 9, () -> x.get(15, 15, 5));
        DUE.is("that is all it has", 9, () -> x.root(15));
    }

    private static void moveRefuses() {
        for (int root : NO_ROOTS) {
            refuses("move, root " + root, BOUNDS, x -> x.move(root, 0));
            refuses("move of NONE, root " + root, BOUNDS, x -> x.move(root, NONE));
        }
        for (int other : NEITHER_ROOTS_NOR_NONE) {
            refuses("move, other root " + other, BOUNDS, x -> x.move(0, other));
        }
    }

    private static void moveAtTheEdges() {
        StoreNotes x = new StoreNotes(16, 0, 0, 8);
        x.make(0, 0, 0, false);
        DUE.is("from the first to the last", 1, () -> x.move(15, 0));
        DUE.is("to itself", 1, () -> x.move(15, 15));
        DUE.is("NONE", 0, () -> x.move(0, NONE));
        DUE.is("back", 1, () -> x.move(0, 15));
        DUE.is("NULL of another one", 0, () -> x.move(0, 1));
        DUE.is("NULL", 0, () -> x.root(0));
    }

    private static void keepRefuses() {
        for (int root : NO_ROOTS) {
            refuses("keep, root " + root, BOUNDS, x -> x.keep(root));
            DUE.refuses("keep, root and full " + root, BOUNDS, Heaps::full, x -> x.keep(root));
        }
        DUE.refuses("keep, full", STATE, Heaps::full, x -> x.keep(0));
        DUE.refuses("keep of NULL, full", STATE, Heaps::full, x -> x.keep(9));
    }

    private static void backRefuses() {
        for (int root : NO_ROOTS) {
            refuses("back, root " + root, BOUNDS, x -> x.back(root));
            DUE.refuses("back, root and empty " + root, BOUNDS, () -> Heaps.bare(), x -> x.back(root));
        }
        DUE.refuses("back, empty", STATE, () -> Heaps.bare(), x -> x.back(0));
        DUE.refuses("back, empty again", STATE, () -> {
            StoreNotes x = Heaps.rich();
            x.back(0);
            x.back(0);
            return x;
        }, x -> x.back(0));
    }

    private static void keepAndBackAtTheEdges() {
        StoreNotes x = new StoreNotes(16, 0, 0, 2);
        x.make(15, 0, 0, false);
        for (int k = 1; k <= 40; k++) {
            int root = k % 2 == 0 ? 0 : 15;
            DUE.is("keep", k, () -> x.keep(root));
        }
        for (int k = 40; k >= 1; k--) {
            DUE.is("back", k % 2, () -> x.back(3));
            int left = k - 1;
            DUE.is("how many are left", left, () -> x.count(6));
        }
        DUE.is("the first place again", 1, () -> x.keep(0));
    }

    private static void weakRefuses() {
        int[] places = {-1, 8, MIN, MAX};
        for (int place : places) {
            refuses("weak, place " + place, BOUNDS, x -> x.weak(place, 0));
        }
        for (int root : NO_ROOTS) {
            refuses("weak, root " + root, BOUNDS, x -> x.weak(3, root));
        }
    }

    private static void strongRefuses() {
        int[] places = {-1, 8, MIN, MAX};
        for (int place : places) {
            refuses("strong, place " + place, BOUNDS, x -> x.strong(0, place));
        }
        for (int root : NO_ROOTS) {
            refuses("strong, root " + root, BOUNDS, x -> x.strong(root, 3));
        }
    }

    private static void weakAndStrongAtTheEdges() {
        StoreNotes x = new StoreNotes(16, 0, 0, 2);
        x.make(15, 0, 0, false);
        int[] places = {0, 7};
        for (int place : places) {
            DUE.is("it had NULL", 0, () -> x.weak(place, 15));
            DUE.is("strong", 1, () -> x.strong(0, place));
            DUE.is("root 0", 1, () -> x.root(0));
            DUE.is("it had that", 1, () -> x.weak(place, 9));
            DUE.is("strong of NULL", 0, () -> x.strong(0, place));
            DUE.is("root 0 is NULL", 0, () -> x.root(0));
        }
    }

    private static void wishRefuses() {
        for (int root : NO_ROOTS) {
            refuses("wish, root " + root, BOUNDS, x -> x.wish(root));
            DUE.refuses("wish, root and empty " + root, BOUNDS, () -> Heaps.bare(), x -> x.wish(root));
        }
    }

    /** "0, and nothing is done, if it is empty" */
    private static void wishOfAnEmptyQueue() {
        StoreNotes x = Heaps.rich();
        StoreNotes y = Heaps.rich();
        int due = y.row(5, 0);
        DUE.is("the only one", due, () -> x.wish(15));
        DUE.is("root 15", due, () -> x.root(15));
        DUE.is("the QUEUE is empty", 0, () -> x.count(8));
        DUE.is("empty", 0, () -> x.wish(15));
        DUE.is("root 15 keeps what it has", due, () -> x.root(15));
        DUE.is("empty", 0, () -> x.wish(0));
        DUE.is("root 0 keeps what it has", y.root(0), () -> x.root(0));
    }

    private static void collectRefuses() {
        int[] none = {-1, 3, MIN, MAX};
        for (int generation : none) {
            refuses("collect(" + generation + ")", ARGUMENT, x -> x.collect(generation));
        }
    }

    private static void rootRefuses() {
        for (int root : NO_ROOTS) {
            refuses("root(" + root + ")", BOUNDS, x -> x.root(root));
        }
    }

    private static void aboutRefuses() {
        int[] none = {-1, 7, MIN, MIN + 4, MIN + 5, MIN + 7, MAX};
        for (int what : none) {
            refuses("about, what " + what, BOUNDS, x -> x.about(0, what));
            refuses("about, NULL before a wrong what " + what, STATE, x -> x.about(9, what));
            refuses("about, a wrong root before a wrong what " + what, BOUNDS, x -> x.about(16, what));
        }
        for (int root : NO_ROOTS) {
            refuses("about, root " + root, BOUNDS, x -> x.about(root, 0));
        }
        for (int what = 0; what <= 6; what++) {
            int asked = what;
            refuses("about, NULL, what " + what, STATE, x -> x.about(9, asked));
        }
    }

    /** "5 and on what field what - 5 has": up to the last field. */
    private static void aboutAtTheEdges() {
        for (int fields = 0; fields <= 6; fields++) {
            StoreNotes x = new StoreNotes(16, 0, 0, 8);
            x.make(0, fields, 0, false);
            for (int field = 0; field < fields; field++) {
                x.put(0, field, 0);
                int what = 5 + field;
                DUE.is("field " + field + " of " + fields, 1, () -> x.about(0, what));
            }
            int behind = 5 + fields;
            int due = fields;
            DUE.is("how many fields", due, () -> x.about(0, 0));
            DUE.noSuch("behind the last field of " + fields, () -> x.about(0, behind));
        }
    }

    private static void wordRefuses() {
        int[] none = {0, -1, MIN, MAX, 16 * 14, 16 * 14 + 1, 1, 32, 33, 64, 96, 161};
        for (int address : none) {
            refuses("word(" + address + ")", BOUNDS, x -> x.word(address));
        }
        StoreNotes x = Heaps.rich();
        int[] first = {17, 65, 97};
        for (int g = 0; g <= 2; g++) {
            int last = first[g] + x.count(g) - 1;
            int address = first[g];
            DUE.noSuch("before the first word of " + g, () -> x.word(address - 1));
            DUE.is("the first word of " + g, 1, () -> x.word(address) > 0 ? 1 : 0);
            DUE.is("the last word of " + g, 1, () -> x.word(last) >= 0 ? 1 : 0);
            DUE.noSuch("behind the last word of " + g, () -> x.word(last + 1));
        }
    }

    private static void rowRefuses() {
        int[] rows = {-1, 7, MIN, MAX};
        for (int row : rows) {
            refuses("row(" + row + ", 0)", BOUNDS, x -> x.row(row, 0));
        }
        for (int row = 0; row <= 6; row++) {
            int asked = row;
            int size = row == 6 ? 8 : Heaps.rich().count(3 + row);
            DUE.is("there is something in row " + row, 1, () -> size > 0 ? 1 : 0);
            int[] none = {-1, size, MIN, MAX};
            for (int k : none) {
                refuses("row(" + row + ", " + k + ")", BOUNDS, x -> x.row(asked, k));
            }
        }
    }

    private static void rowsAtTheEdges() {
        StoreNotes x = Heaps.full();
        DUE.is("the last place of a full STACK", x.root(1), () -> x.row(3, 39));
        DUE.noSuch("behind it", () -> x.row(3, 40));
        StoreNotes y = new StoreNotes(16, 0, 0, 64);
        y.make(0, 1, 0, false);
        for (int k = 0; k < 64; k++) {
            y.put(0, 0, 0);
        }
        DUE.is("the last note of a full BUFFER", 3, () -> y.row(2, 63));
        DUE.noSuch("behind it", () -> y.row(2, 64));
        y.put(0, 0, 0);
        DUE.is("the only note", 3, () -> y.row(2, 0));
        DUE.noSuch("behind it", () -> y.row(2, 1));
    }

    private static void codeRefuses() {
        DUE.refuses("code, 64 are there", STATE, Heaps::full, x -> x.code(0, 0, 0, 0));
        DUE.refuses("code of wrong numbers, 64 are there", STATE, Heaps::full, x -> x.code(-1, -1, -1, -1));
        StoreNotes x = Heaps.full();
        DUE.is("the first three are as before", 0, () -> x.run(0, 3));
        DUE.is("PLACE of STOP", 2, () -> x.count(16));
        DUE.is("the last one is as before", 6, () -> x.run(63, 1));
        DUE.is("PLACE that it leads to", 0, () -> x.count(16));
    }

    /** "There is no CODE: how many instructions there were." */
    private static void scrapAtTheEdges() {
        StoreNotes x = Heaps.bare();
        int[] numbers = {MIN, -1, 15, MAX};
        for (int k = 1; k <= 64; k++) {
            int number = numbers[k % 4];
            DUE.is("numbers are not looked at", k, () -> x.code(number, number, number, number));
        }
        DUE.is("scrap", 64, x::scrap);
        DUE.is("scrap of nothing", 0, x::scrap);
        DUE.is("none any more", 0, () -> x.run(0, 400));
        for (int k = 1; k <= 64; k++) {
            DUE.is("64 again", k, () -> x.code(0, 0, 0, 0));
        }
        DUE.is("scrap", 64, x::scrap);
    }

    private static void runRefuses() {
        int[] places = {-1, 4, MIN, MAX};
        for (int place : places) {
            refuses("run, place " + place, BOUNDS, x -> x.run(place, 1));
            refuses("run, place before wrong steps " + place, BOUNDS, x -> x.run(place, 401));
        }
        int[] wrong = {-1, 401, MIN, MAX};
        for (int steps : wrong) {
            refuses("run, steps " + steps, ARGUMENT, x -> x.run(0, steps));
            refuses("run, steps behind the last instruction " + steps, ARGUMENT, x -> x.run(3, steps));
        }
        DUE.refuses("run, no CODE", BOUNDS, () -> Heaps.bare(), x -> x.run(1, 0));
        DUE.refuses("run, 64 instructions", BOUNDS, Heaps::full, x -> x.run(65, 0));
        DUE.is("run behind 64 instructions", 0, () -> Heaps.full().run(64, 0));
        DUE.is("run of the last one of 64", 6, () -> Heaps.full().run(63, 0));
    }

    private static void countRefuses() {
        int[] none = {-1, 25, MIN, MAX};
        for (int what : none) {
            refuses("count(" + what + ")", BOUNDS, x -> x.count(what));
        }
        StoreNotes x = Heaps.rich();
        DUE.is("the first one", 4, () -> x.count(0));
        DUE.is("the last one", 0, () -> x.count(24));
        DUE.is("x 0", 5, () -> x.count(17));
        DUE.is("x 1", 10, () -> x.count(18));
    }
}
