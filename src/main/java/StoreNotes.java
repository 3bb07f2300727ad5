/**
 * A heap of three generations that are copied, with noted stores, remembered sets, last wishes, weak places and a
 * small machine. This class is the face: it looks at what it is told, the classes inside do the work.
 */
public final class StoreNotes {
    public static final int NONE = -1;

    private static final int NULL = 0;
    private static final int ROOTS = 16;
    private static final int STACK_PLACES = 40;
    private static final int WEAK_PLACES = 8;
    private static final int GENERATIONS = 3;
    private static final int MOST_FIELDS = 6;
    private static final int MOST_PUSHED = 40;
    private static final int MOST_STEPS = 400;

    private static final int ABOUT_FIELDS = 0;
    private static final int ABOUT_AGE = 1;
    private static final int ABOUT_KEEN = 2;
    private static final int ABOUT_LABEL = 3;
    private static final int ABOUT_GENERATION = 4;
    private static final int ABOUT_FIRST_FIELD = 5;

    private final Heap heap;
    private final Machine machine;

    public StoreNotes(int size, int limit0, int limit1, int buffer) {
        heap = new Heap(nearest(size, 16, 128), nearest(limit0, 0, 6), nearest(limit1, 0, 6), nearest(buffer, 2, 64));
        machine = new Machine(heap);
    }

    public int make(int root, int fields, int label, boolean keen)
            throws IndexOutOfBoundsException, IllegalArgumentException {
        lookAtRoot(root);
        if (fields < 0 || fields > MOST_FIELDS) {
            throw new IllegalArgumentException();
        }
        int made = heap.newObject(fields, label, keen);
        if (made != NULL) {
            heap.roots.items[root] = made;
        }
        return made;
    }

    public int push(int root, int label, int times) throws IndexOutOfBoundsException, IllegalArgumentException {
        lookAtRoot(root);
        if (times < 1 || times > MOST_PUSHED) {
            throw new IllegalArgumentException();
        }
        for (int done = 0; done < times; done++) {
            int made = heap.newObject(2, label + done, false);
            if (made == NULL) {
                return done;
            }
            heap.store(made, 0, heap.roots.items[root]);
            heap.roots.items[root] = made;
        }
        return times;
    }

    public int put(int root, int field, int other) throws IndexOutOfBoundsException, IllegalStateException {
        lookAtRoot(root);
        lookAtRootOrNone(other);
        int object = objectOf(root);
        lookAtField(object, field);
        int had = heap.fieldOf(object, field);
        heap.store(object, field, heap.rootOrNull(other));
        return had;
    }

    public int get(int root, int other, int field) throws IndexOutOfBoundsException, IllegalStateException {
        lookAtRoot(root);
        lookAtRoot(other);
        int object = objectOf(other);
        lookAtField(object, field);
        heap.roots.items[root] = heap.fieldOf(object, field);
        return heap.roots.items[root];
    }

    public int move(int root, int other) throws IndexOutOfBoundsException {
        lookAtRoot(root);
        lookAtRootOrNone(other);
        heap.roots.items[root] = heap.rootOrNull(other);
        return heap.roots.items[root];
    }

    public int keep(int root) throws IndexOutOfBoundsException, IllegalStateException {
        lookAtRoot(root);
        if (heap.stack.isFull()) {
            throw new IllegalStateException();
        }
        heap.stack.add(heap.roots.items[root]);
        return heap.stack.size;
    }

    public int back(int root) throws IndexOutOfBoundsException, IllegalStateException {
        lookAtRoot(root);
        if (heap.stack.size == 0) {
            throw new IllegalStateException();
        }
        heap.roots.items[root] = heap.stack.takeLast();
        return heap.roots.items[root];
    }

    public int weak(int place, int root) throws IndexOutOfBoundsException {
        lookAtWeakPlace(place);
        lookAtRoot(root);
        int had = heap.weakPlaces.items[place];
        heap.weakPlaces.items[place] = heap.roots.items[root];
        return had;
    }

    public int strong(int root, int place) throws IndexOutOfBoundsException {
        lookAtRoot(root);
        lookAtWeakPlace(place);
        heap.roots.items[root] = heap.weakPlaces.items[place];
        return heap.roots.items[root];
    }

    public int wish(int root) throws IndexOutOfBoundsException {
        lookAtRoot(root);
        if (heap.queue.size == 0) {
            return NULL;
        }
        heap.roots.items[root] = heap.queue.takeFirst();
        return heap.roots.items[root];
    }

    public int collect(int generation) throws IllegalArgumentException {
        if (generation < 0 || generation >= GENERATIONS) {
            throw new IllegalArgumentException();
        }
        return heap.gather(generation);
    }

    public int root(int root) throws IndexOutOfBoundsException {
        lookAtRoot(root);
        return heap.roots.items[root];
    }

    public int about(int root, int what) throws IndexOutOfBoundsException, IllegalStateException {
        lookAtRoot(root);
        int object = objectOf(root);
        switch (what) {
            case ABOUT_FIELDS:
                return heap.fieldsOf(object);
            case ABOUT_AGE:
                return heap.ageOf(object);
            case ABOUT_KEEN:
                return heap.isKeen(object) ? 1 : 0;
            case ABOUT_LABEL:
                return heap.labelOf(object);
            case ABOUT_GENERATION:
                return heap.homeOf(object).number;
            default:
                lookAtField(object, what - ABOUT_FIRST_FIELD);
                return heap.fieldOf(object, what - ABOUT_FIRST_FIELD);
        }
    }

    public int word(int address) throws IndexOutOfBoundsException {
        if (!heap.isTaken(address)) {
            throw new IndexOutOfBoundsException();
        }
        return heap.words[address];
    }

    public int row(int row, int k) throws IndexOutOfBoundsException {
        Row asked = heap.rowOf(row);
        if (asked == null || k < 0 || k >= asked.size) {
            throw new IndexOutOfBoundsException();
        }
        return asked.items[k];
    }

    public int code(int what, int a, int b, int c) throws IllegalStateException {
        if (machine.length == Machine.MOST_INSTRUCTIONS) {
            throw new IllegalStateException();
        }
        machine.append(what, a, b, c);
        return machine.length;
    }

    public int scrap() {
        int had = machine.length;
        machine.length = 0;
        return had;
    }

    public int run(int place, int steps) throws IndexOutOfBoundsException, IllegalArgumentException {
        if (place < 0 || place > machine.length) {
            throw new IndexOutOfBoundsException();
        }
        if (steps < 0 || steps > MOST_STEPS) {
            throw new IllegalArgumentException();
        }
        machine.place = place;
        int end = Machine.GOES_ON;
        for (int done = 0; done <= steps && end == Machine.GOES_ON; done++) {
            end = machine.endBefore(done == steps);
            if (end == Machine.GOES_ON) {
                end = machine.step();
            }
        }
        return end;
    }

    public int count(int what) throws IndexOutOfBoundsException {
        if (what < 0 || what > 24) {
            throw new IndexOutOfBoundsException();
        }
        if (what >= 17) {
            return machine.numbers[what - 17];
        }
        switch (what) {
            case 15:
                return machine.steps;
            case 16:
                return machine.place;
            default:
                return heap.countOf(what);
        }
    }

    private static int nearest(int value, int least, int most) {
        return Math.max(least, Math.min(most, value));
    }

    private static boolean isRoot(int root) {
        return root >= 0 && root < ROOTS;
    }

    private static void lookAtRoot(int root) {
        if (!isRoot(root)) {
            throw new IndexOutOfBoundsException();
        }
    }

    private static void lookAtRootOrNone(int root) {
        if (root != NONE) {
            lookAtRoot(root);
        }
    }

    private static void lookAtWeakPlace(int place) {
        if (place < 0 || place >= WEAK_PLACES) {
            throw new IndexOutOfBoundsException();
        }
    }

    private int objectOf(int root) {
        int object = heap.roots.items[root];
        if (object == NULL) {
            throw new IllegalStateException();
        }
        return object;
    }

    private void lookAtField(int object, int field) {
        if (!heap.hasField(object, field)) {
            throw new IndexOutOfBoundsException();
        }
    }

    /** Ints one behind the other, of which the first ones are taken. */
    private static final class Row {
        final int[] items;
        int size;

        Row(int places, int taken) {
            items = new int[places];
            size = taken;
        }

        boolean isFull() {
            return size == items.length;
        }

        void add(int item) {
            // Every row has as many places as it can ever need: the test only keeps the index within them.
            if (size < items.length) {
                items[size] = item;
                size++;
            }
        }

        boolean has(int item) {
            for (int k = 0; k < size; k++) {
                if (items[k] == item) {
                    return true;
                }
            }
            return false;
        }

        int takeFirst() {
            if (size == 0) {
                return NULL;
            }
            int first = items[0];
            size--;
            System.arraycopy(items, 1, items, 0, size);
            return first;
        }

        int takeLast() {
            if (size == 0) {
                return NULL;
            }
            size--;
            return items[size];
        }
    }

    /** Where a generation lies, and how far a collection has come with it. */
    private static final class Generation {
        final int number;
        final int first;
        final int size;
        final int limit;
        int start;
        int used;
        int from;
        int left;
        int scanned;
        int collections;

        Generation(int number, int first, int size, int limit) {
            this.number = number;
            this.first = first;
            this.size = size;
            this.limit = limit;
            start = first;
        }

        boolean isTaken(int address) {
            return address >= start && address < start + used;
        }

        boolean isInFrom(int address) {
            return from != NULL && address >= from && address < from + size;
        }

        /** What is LEFT in FROM may still have to come here, so that its room is not given away. */
        boolean fits(int more) {
            return used + left + more <= size;
        }

        int take(int more) {
            int address = start + used;
            used += more;
            return address;
        }

        void begin(boolean collected) {
            if (collected) {
                from = start;
                left = used;
                start = from == first ? first + size : first;
                used = 0;
            }
            scanned = used;
        }

        void end() {
            from = NULL;
            left = 0;
        }
    }

    /** Words, what leads to objects, and collections. */
    private static final class Heap {
        private static final int FIELDS_MASK = 7;
        private static final int AGE_SHIFT = 3;
        private static final int OLDEST = 7;
        private static final int KEEN = 64;
        private static final int FIRST_FIELD = 2;

        final int[] words;
        final Generation[] generations = new Generation[GENERATIONS];
        final Row roots = new Row(ROOTS, ROOTS);
        final Row stack = new Row(STACK_PLACES, 0);
        final Row weakPlaces = new Row(WEAK_PLACES, WEAK_PLACES);
        final Row wishes;
        final Row queue;
        final Row buffer;
        private Row[] remembered;
        private Row[] aside;
        private int overflows;
        private int copied;
        private int promoted;

        Heap(int size, int limit0, int limit1, int bufferPlaces) {
            words = new int[1 + 14 * size];
            generations[0] = new Generation(0, 1, size, limit0);
            generations[1] = new Generation(1, 1 + 2 * size, 2 * size, limit1);
            generations[2] = new Generation(2, 1 + 6 * size, 4 * size, OLDEST);
            // No more objects than pairs of words in the three halves IN USE.
            wishes = new Row(7 * size / 2, 0);
            queue = new Row(7 * size / 2, 0);
            buffer = new Row(bufferPlaces, 0);
            remembered = newRows(size);
            aside = newRows(size);
        }

        /** A row has no more fields than words lie in the older halves IN USE. */
        private static Row[] newRows(int size) {
            Row[] rows = new Row[GENERATIONS - 1];
            rows[0] = new Row(6 * size, 0);
            rows[1] = new Row(4 * size, 0);
            return rows;
        }

        int fieldsOf(int object) {
            return words[object] & FIELDS_MASK;
        }

        int ageOf(int object) {
            return words[object] >> AGE_SHIFT & OLDEST;
        }

        boolean isKeen(int object) {
            return (words[object] & KEEN) != 0;
        }

        int labelOf(int object) {
            return words[object + 1];
        }

        boolean hasField(int object, int field) {
            return field >= 0 && field < fieldsOf(object);
        }

        int fieldOf(int object, int field) {
            return words[object + FIRST_FIELD + field];
        }

        int rootOrNull(int root) {
            return root == NONE ? NULL : roots.items[root];
        }

        Generation homeOf(int address) {
            for (int number = GENERATIONS - 1; number > 0; number--) {
                if (address >= generations[number].first) {
                    return generations[number];
                }
            }
            return generations[0];
        }

        boolean isTaken(int address) {
            return homeOf(address).isTaken(address);
        }

        /** The rows in the order in which row() and count() tell of them; null if there is no such row. */
        Row rowOf(int number) {
            switch (number) {
                case 0:
                case 1:
                    return remembered[number];
                case 2:
                    return buffer;
                case 3:
                    return stack;
                case 4:
                    return wishes;
                case 5:
                    return queue;
                case 6:
                    return weakPlaces;
                default:
                    return null;
            }
        }

        int countOf(int what) {
            switch (what) {
                case 0:
                case 1:
                case 2:
                    return generations[what].used;
                case 9:
                case 10:
                case 11:
                    return generations[what - 9].collections;
                case 12:
                    return overflows;
                case 13:
                    return copied;
                case 14:
                    return promoted;
                default:
                    Row counted = rowOf(what - 3);
                    return counted == null ? 0 : counted.size;
            }
        }

        /** TO MAKE an object: its address, NULL if it is FULL. */
        int newObject(int fields, int label, boolean keen) {
            int size = FIRST_FIELD + fields;
            Generation youngest = generations[0];
            for (int most = 0; most < GENERATIONS && !youngest.fits(size); most++) {
                gather(most);
            }
            if (!youngest.fits(size)) {
                return NULL;
            }
            int object = youngest.take(size);
            words[object] = keen ? fields + KEEN : fields;
            words[object + 1] = label;
            for (int field = 0; field < fields; field++) {
                words[object + FIRST_FIELD + field] = NULL;
            }
            if (keen) {
                wishes.add(object);
            }
            return object;
        }

        /** A PUT. */
        void store(int object, int field, int value) {
            int address = object + FIRST_FIELD + field;
            words[address] = value;
            if (value == NULL) {
                return;
            }
            if (buffer.isFull()) {
                overflows++;
                filter();
            }
            buffer.add(address);
        }

        private void filter() {
            for (int k = 0; k < buffer.size; k++) {
                remember(buffer.items[k]);
            }
            buffer.size = 0;
        }

        private void remember(int field) {
            int object = words[field];
            if (object == NULL) {
                return;
            }
            int younger = homeOf(object).number;
            if (younger < homeOf(field).number && !remembered[younger].has(field)) {
                remembered[younger].add(field);
            }
        }

        /** A COLLECTION of a generation and those below it: how many words were copied. */
        int gather(int most) {
            int before = copied;
            filter();
            for (int number = 0; number < GENERATIONS; number++) {
                generations[number].begin(number <= most);
            }
            putRowsAside();
            bringAll(roots);
            bringAll(stack);
            bringAll(queue);
            bringRemembered(aside[0], most);
            bringRemembered(aside[1], most);
            scan();
            grantWishes();
            scan();
            clearWeakPlaces();
            for (int number = 0; number <= most; number++) {
                generations[number].end();
            }
            generations[most].collections++;
            return copied - before;
        }

        private void putRowsAside() {
            Row[] emptied = aside;
            aside = remembered;
            remembered = emptied;
            remembered[0].size = 0;
            remembered[1].size = 0;
        }

        private void bringAll(Row row) {
            for (int k = 0; k < row.size; k++) {
                row.items[k] = brought(row.items[k]);
            }
        }

        private void bringRemembered(Row fields, int most) {
            for (int k = 0; k < fields.size; k++) {
                int field = fields.items[k];
                if (homeOf(field).number > most) {
                    words[field] = brought(words[field]);
                    remember(field);
                }
            }
        }

        /** What a place has once it is BROUGHT. The HEAD of an object that was copied is its new address, negative. */
        private int brought(int address) {
            Generation home = homeOf(address);
            if (!home.isInFrom(address)) {
                return address;
            }
            if (words[address] < 0) {
                return -words[address];
            }
            int size = FIRST_FIELD + fieldsOf(address);
            int age = Math.min(ageOf(address) + 1, OLDEST);
            home.left -= size;
            if (home.number < GENERATIONS - 1 && age > home.limit && generations[home.number + 1].fits(size)) {
                home = generations[home.number + 1];
                age = 0;
                promoted++;
            }
            int copy = home.take(size);
            System.arraycopy(words, address, words, copy, size);
            words[copy] = words[address] & ~(OLDEST << AGE_SHIFT) | age << AGE_SHIFT;
            words[address] = -copy;
            copied += size;
            return copy;
        }

        private void scan() {
            // Fewer objects than words can come in one collection.
            for (int done = 0; done < words.length; done++) {
                Generation next = leastUnscanned();
                if (next == null) {
                    return;
                }
                int object = next.start + next.scanned;
                int end = object + FIRST_FIELD + fieldsOf(object);
                for (int field = object + FIRST_FIELD; field < end; field++) {
                    words[field] = brought(words[field]);
                    remember(field);
                }
                next.scanned += end - object;
            }
        }

        private Generation leastUnscanned() {
            for (int number = 0; number < GENERATIONS; number++) {
                if (generations[number].scanned < generations[number].used) {
                    return generations[number];
                }
            }
            return null;
        }

        /** A wish that was not copied is judged before the objects that it leads to are SCANNED. */
        private void grantWishes() {
            int staying = 0;
            for (int k = 0; k < wishes.size; k++) {
                int wish = wishes.items[k];
                boolean granted = homeOf(wish).isInFrom(wish) && words[wish] >= 0;
                int now = brought(wish);
                if (granted) {
                    words[now] &= ~KEEN;
                    queue.add(now);
                } else {
                    wishes.items[staying] = now;
                    staying++;
                }
            }
            wishes.size = staying;
        }

        private void clearWeakPlaces() {
            for (int k = 0; k < weakPlaces.size; k++) {
                int address = weakPlaces.items[k];
                if (homeOf(address).isInFrom(address)) {
                    weakPlaces.items[k] = words[address] < 0 ? -words[address] : NULL;
                }
            }
        }
    }

    /** CODE, NUMBERS, and how one instruction is looked at and done. */
    private static final class Machine {
        static final int MOST_INSTRUCTIONS = 64;
        static final int GOES_ON = -1;

        private static final int NUMBERS = 8;

        private static final int NO_MORE = 0;
        private static final int WRONG = 1;
        private static final int HAS_NULL = 2;
        private static final int NO_FIELD = 3;
        private static final int STACK_ENDS = 4;
        private static final int FULL = 5;
        private static final int STEPS_DONE = 6;

        private static final int STOP = 0;
        private static final int NEW = 1;
        private static final int PUT = 2;
        private static final int GET = 3;
        private static final int MOVE = 4;
        private static final int PUSH = 5;
        private static final int POP = 6;
        private static final int SET = 7;
        private static final int ADD = 8;
        private static final int NAME = 9;
        private static final int IFNULL = 10;
        private static final int IFLESS = 11;
        private static final int GOTO = 12;
        private static final int IFSAME = 13;
        private static final int NEWKEEN = 14;

        /**
         * What a, b and c of each instruction must be: r a root, q a root or NONE, n how many fields, f a field's
         * number (that some object can have: whether this one has it is looked at behind NULL), i a NUMBER, p a place,
         * - anything.
         */
        private static final String TOLD = "--- rni rfq rrf rq- r-- r-- i-- iii ir- rp- iip p-- rrp rni";

        private final Heap heap;
        private final int[] instructions = new int[4 * MOST_INSTRUCTIONS];
        final int[] numbers = new int[NUMBERS];
        int length;
        int place;
        int steps;

        Machine(Heap heap) {
            this.heap = heap;
        }

        void append(int what, int a, int b, int c) {
            if (length < MOST_INSTRUCTIONS) {
                int at = 4 * length;
                instructions[at] = what;
                instructions[at + 1] = a;
                instructions[at + 2] = b;
                instructions[at + 3] = c;
                length++;
            }
        }

        /** How it ENDS before the instruction at its place is done, or GOES_ON. */
        int endBefore(boolean stepsDone) {
            if (place >= length) {
                return NO_MORE;
            }
            if (stepsDone) {
                return STEPS_DONE;
            }
            if (isWrong()) {
                return WRONG;
            }
            switch (instructions[4 * place]) {
                case PUT:
                    return endOfObject(instructions[4 * place + 1], instructions[4 * place + 2]);
                case GET:
                    return endOfObject(instructions[4 * place + 2], instructions[4 * place + 3]);
                case NAME:
                    return heap.roots.items[instructions[4 * place + 2]] == NULL ? HAS_NULL : GOES_ON;
                case PUSH:
                    return heap.stack.isFull() ? STACK_ENDS : GOES_ON;
                case POP:
                    return heap.stack.size == 0 ? STACK_ENDS : GOES_ON;
                default:
                    return GOES_ON;
            }
        }

        private boolean isWrong() {
            int what = instructions[4 * place];
            if (what < STOP || what > NEWKEEN) {
                return true;
            }
            for (int k = 0; k < 3; k++) {
                if (!isAsTold(TOLD.charAt(4 * what + k), instructions[4 * place + 1 + k])) {
                    return true;
                }
            }
            return false;
        }

        private boolean isAsTold(char kind, int number) {
            switch (kind) {
                case 'r':
                    return isRoot(number);
                case 'q':
                    return number == NONE || isRoot(number);
                case 'n':
                    return number >= 0 && number <= MOST_FIELDS;
                case 'f':
                    return number >= 0 && number < MOST_FIELDS;
                case 'i':
                    return number >= 0 && number < NUMBERS;
                case 'p':
                    return number >= 0 && number <= length;
                default:
                    return true;
            }
        }

        private int endOfObject(int root, int field) {
            int object = heap.roots.items[root];
            if (object == NULL) {
                return HAS_NULL;
            }
            return heap.hasField(object, field) ? GOES_ON : NO_FIELD;
        }

        /** Does the instruction at its place, which was looked at before: how it ENDS by that, or GOES_ON. */
        int step() {
            int what = instructions[4 * place];
            int a = instructions[4 * place + 1];
            int b = instructions[4 * place + 2];
            int c = instructions[4 * place + 3];
            if (what == NEW || what == NEWKEEN) {
                int made = heap.newObject(b, numbers[c], what == NEWKEEN);
                if (made == NULL) {
                    return FULL;
                }
                heap.roots.items[a] = made;
            }
            steps++;
            if (what == STOP) {
                return NO_MORE;
            }
            change(what, a, b, c);
            place = goesOnAt(what, a, b, c);
            return GOES_ON;
        }

        private void change(int what, int a, int b, int c) {
            int[] roots = heap.roots.items;
            switch (what) {
                case PUT:
                    heap.store(roots[a], b, heap.rootOrNull(c));
                    break;
                case GET:
                    roots[a] = heap.fieldOf(roots[b], c);
                    break;
                case MOVE:
                    roots[a] = heap.rootOrNull(b);
                    break;
                case PUSH:
                    heap.stack.add(roots[a]);
                    break;
                case POP:
                    roots[a] = heap.stack.takeLast();
                    break;
                case SET:
                    numbers[a] = b;
                    break;
                case ADD:
                    numbers[a] = numbers[b] + numbers[c];
                    break;
                case NAME:
                    numbers[a] = heap.labelOf(roots[b]);
                    break;
                default:
                    break;
            }
        }

        private int goesOnAt(int what, int a, int b, int c) {
            int[] roots = heap.roots.items;
            switch (what) {
                case IFNULL:
                    return roots[a] == NULL ? b : place + 1;
                case IFLESS:
                    return numbers[a] < numbers[b] ? c : place + 1;
                case GOTO:
                    return a;
                case IFSAME:
                    return roots[a] == roots[b] ? c : place + 1;
                default:
                    return place + 1;
            }
        }
    }
}
