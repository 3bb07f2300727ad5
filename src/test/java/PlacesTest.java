/** Promises 4 to 11: put, get, move, keep, back, weak, strong, wish. */
public final class PlacesTest {
    private static final Due DUE = new Due();

    public static void main(String[] args) {
        put();
        putNotes();
        putThrows();
        overflowFiltersBehindTheStore();
        get();
        getThrows();
        move();
        keepAndBack();
        keepAndBackThrow();
        weakAndStrong();
        weakAndStrongThrow();
        wish();
        wishThrows();
        DUE.end();
    }

    private static StoreNotes withTwo() {
        StoreNotes x = new StoreNotes(32, 1, 1, 4);
        x.make(0, 2, 10, false);
        x.make(1, 1, 11, false);
        return x;
    }

    private static void put() {
        StoreNotes x = withTwo();
        DUE.is("it was NULL", 0, () -> x.put(0, 1, 1));
        DUE.is("field 1", 5, () -> x.about(0, 6));
        DUE.is("it was the other one", 5, () -> x.put(0, 1, 0));
        DUE.is("it has itself", 1, () -> x.about(0, 6));
        DUE.is("it was itself", 1, () -> x.put(0, 1, StoreNotes.NONE));
        DUE.is("it is NULL", 0, () -> x.about(0, 6));
        DUE.is("it was NULL", 0, () -> x.put(0, 1, 9));
        DUE.is("a root that has NULL", 0, () -> x.about(0, 6));
    }

    private static void putNotes() {
        StoreNotes x = withTwo();
        x.put(0, 1, 1);
        x.put(0, 0, 1);
        x.put(0, 1, -1);
        x.put(0, 1, 9);
        x.put(0, 1, 0);
        DUE.is("NULL is not noted", 3, () -> x.count(5));
        DUE.is("the oldest note", 4, () -> x.row(2, 0));
        DUE.is("the next one", 3, () -> x.row(2, 1));
        DUE.is("a field is noted again", 4, () -> x.row(2, 2));
        x.put(1, 0, 0);
        DUE.is("all places are taken", 4, () -> x.count(5));
        DUE.is("and not FILTERED yet", 0, () -> x.count(12));
        x.put(1, 0, -1);
        DUE.is("nor by NULL", 0, () -> x.count(12));
        x.put(1, 0, 0);
        DUE.is("but by the next one", 1, () -> x.count(12));
        DUE.is("which is alone then", 1, () -> x.count(5));
        DUE.is("it", 7, () -> x.row(2, 0));
        DUE.is("young fields are not REMEMBERED", 0, () -> x.count(3) + x.count(4));
    }

    private static void putThrows() {
        StoreNotes x = withTwo();
        DUE.bounds("put(-1, 0, 0)", x, () -> x.put(-1, 0, 0));
        DUE.bounds("put(16, 0, 0)", x, () -> x.put(16, 0, 0));
        DUE.bounds("put(0, 0, 16)", x, () -> x.put(0, 0, 16));
        DUE.bounds("put(0, 0, -2)", x, () -> x.put(0, 0, -2));
        DUE.bounds("put(0, 2, 1)", x, () -> x.put(0, 2, 1));
        DUE.bounds("put(0, -1, 1)", x, () -> x.put(0, -1, 1));
        DUE.bounds("put(1, 1, 0)", x, () -> x.put(1, 1, 0));
        DUE.bounds("put(0, MAX, 1)", x, () -> x.put(0, Integer.MAX_VALUE, 1));
        DUE.state("put(2, 0, 1)", x, () -> x.put(2, 0, 1));
        DUE.state("NULL is told before a wrong field", x, () -> x.put(2, 9, 1));
        DUE.bounds("a wrong other root is told before NULL", x, () -> x.put(2, 0, 16));
    }

    /** The note that finds no place is FILTERED for: the field that was noted before has its new object by then. */
    private static void overflowFiltersBehindTheStore() {
        StoreNotes x = new StoreNotes(32, 0, 6, 2);
        x.make(0, 2, 0, false);
        x.make(1, 0, 1, false);
        x.collect(0);
        x.make(2, 0, 2, false);
        x.put(0, 0, 2);
        x.put(0, 1, 2);
        DUE.is("nothing is REMEMBERED yet", 0, () -> x.count(3));
        x.put(0, 0, 1);
        DUE.is("OVERFLOW", 1, () -> x.count(12));
        DUE.is("field 0 has an old object now", 1, () -> x.count(3));
        DUE.is("field 1 has a young one", 68, () -> x.row(0, 0));
        DUE.is("field 0 is noted again", 67, () -> x.row(2, 0));
    }

    private static void get() {
        StoreNotes x = withTwo();
        x.put(0, 1, 1);
        DUE.is("get(5, 0, 1)", 5, () -> x.get(5, 0, 1));
        DUE.is("root 5", 5, () -> x.root(5));
        DUE.is("get of NULL", 0, () -> x.get(5, 0, 0));
        DUE.is("root 5 is NULL", 0, () -> x.root(5));
        DUE.is("into the same root", 5, () -> x.get(0, 0, 1));
        DUE.is("root 0", 5, () -> x.root(0));
        DUE.is("get is no PUT", 1, () -> x.count(5));
    }

    private static void getThrows() {
        StoreNotes x = withTwo();
        DUE.bounds("get(-1, 0, 0)", x, () -> x.get(-1, 0, 0));
        DUE.bounds("get(16, 0, 0)", x, () -> x.get(16, 0, 0));
        DUE.bounds("get(0, 16, 0)", x, () -> x.get(0, 16, 0));
        DUE.bounds("get(0, NONE, 0)", x, () -> x.get(0, StoreNotes.NONE, 0));
        DUE.bounds("get(0, 0, 2)", x, () -> x.get(0, 0, 2));
        DUE.bounds("get(0, 0, -1)", x, () -> x.get(0, 0, -1));
        DUE.bounds("get(0, 1, 1)", x, () -> x.get(0, 1, 1));
        DUE.state("get(0, 2, 0)", x, () -> x.get(0, 2, 0));
        DUE.state("NULL is told before a wrong field", x, () -> x.get(0, 2, -1));
        DUE.bounds("a wrong root is told before NULL", x, () -> x.get(16, 2, 0));
    }

    private static void move() {
        StoreNotes x = withTwo();
        DUE.is("move(3, 1)", 5, () -> x.move(3, 1));
        DUE.is("root 3", 5, () -> x.root(3));
        DUE.is("root 1 still has it", 5, () -> x.root(1));
        DUE.is("move(3, NONE)", 0, () -> x.move(3, -1));
        DUE.is("root 3 is NULL", 0, () -> x.root(3));
        DUE.is("move(1, 9) of NULL", 0, () -> x.move(1, 9));
        DUE.is("move(0, 0)", 1, () -> x.move(0, 0));
        DUE.bounds("move(-1, 0)", x, () -> x.move(-1, 0));
        DUE.bounds("move(16, 0)", x, () -> x.move(16, 0));
        DUE.bounds("move(0, 16)", x, () -> x.move(0, 16));
        DUE.bounds("move(0, -2)", x, () -> x.move(0, -2));
    }

    private static void keepAndBack() {
        StoreNotes x = withTwo();
        DUE.is("keep(0)", 1, () -> x.keep(0));
        DUE.is("keep(1)", 2, () -> x.keep(1));
        DUE.is("keep of NULL", 3, () -> x.keep(2));
        DUE.is("the lowest place", 1, () -> x.row(3, 0));
        DUE.is("the highest place", 0, () -> x.row(3, 2));
        DUE.is("back of NULL", 0, () -> x.back(0));
        DUE.is("root 0 is NULL", 0, () -> x.root(0));
        DUE.is("back of the second", 5, () -> x.back(7));
        DUE.is("root 7", 5, () -> x.root(7));
        DUE.is("one place is left", 1, () -> x.count(6));
        DUE.is("back of the first", 1, () -> x.back(8));
    }

    private static void keepAndBackThrow() {
        StoreNotes x = withTwo();
        DUE.bounds("keep(-1)", x, () -> x.keep(-1));
        DUE.bounds("keep(16)", x, () -> x.keep(16));
        DUE.bounds("back(16) of an empty STACK", x, () -> x.back(16));
        DUE.bounds("back(-1) of an empty STACK", x, () -> x.back(-1));
        DUE.state("back(0) of an empty STACK", x, () -> x.back(0));
        for (int k = 1; k <= 40; k++) {
            DUE.is("keep number " + k, k, () -> x.keep(0));
        }
        DUE.state("keep of a 41st", x, () -> x.keep(0));
        DUE.state("keep of NULL as a 41st", x, () -> x.keep(9));
        DUE.bounds("a wrong root is told before a full STACK", x, () -> x.keep(16));
        DUE.is("back", 1, () -> x.back(3));
        DUE.is("keep again", 40, () -> x.keep(3));
    }

    private static void weakAndStrong() {
        StoreNotes x = withTwo();
        DUE.is("it had NULL", 0, () -> x.weak(0, 0));
        DUE.is("it had the first", 1, () -> x.weak(0, 1));
        DUE.is("the last place", 0, () -> x.weak(7, 0));
        DUE.is("row(6, 7)", 1, () -> x.row(6, 7));
        DUE.is("strong(4, 0)", 5, () -> x.strong(4, 0));
        DUE.is("root 4", 5, () -> x.root(4));
        DUE.is("strong of NULL", 0, () -> x.strong(4, 3));
        DUE.is("root 4 is NULL", 0, () -> x.root(4));
        x.move(1, -1);
        x.collect(0);
        DUE.is("a weak place keeps nothing", 0, () -> x.strong(4, 0));
        DUE.is("but it follows what is kept", 33, () -> x.strong(4, 7));
        DUE.is("it had that", 33, () -> x.weak(7, 9));
        DUE.is("it has NULL", 0, () -> x.row(6, 7));
    }

    private static void weakAndStrongThrow() {
        StoreNotes x = withTwo();
        x.weak(2, 0);
        DUE.bounds("weak(-1, 0)", x, () -> x.weak(-1, 0));
        DUE.bounds("weak(8, 0)", x, () -> x.weak(8, 0));
        DUE.bounds("weak(0, -1)", x, () -> x.weak(2, StoreNotes.NONE));
        DUE.bounds("weak(0, 16)", x, () -> x.weak(2, 16));
        DUE.bounds("strong(-1, 0)", x, () -> x.strong(-1, 2));
        DUE.bounds("strong(16, 0)", x, () -> x.strong(16, 2));
        DUE.bounds("strong(0, 8)", x, () -> x.strong(0, 8));
        DUE.bounds("strong(0, -1)", x, () -> x.strong(0, -1));
    }

    private static void wish() {
        StoreNotes x = new StoreNotes(32, 6, 6, 4);
        x.make(0, 0, 1, true);
        x.make(0, 0, 2, true);
        x.make(0, 0, 3, false);
        x.move(1, 0);
        DUE.is("an empty QUEUE", 0, () -> x.wish(1));
        DUE.is("nothing is done", 5, () -> x.root(1));
        x.collect(0);
        DUE.is("two in the QUEUE", 2, () -> x.count(8));
        DUE.is("the first of them", 35, () -> x.row(5, 0));
        DUE.is("the second", 37, () -> x.row(5, 1));
        DUE.is("wish(1)", 35, () -> x.wish(1));
        DUE.is("root 1", 35, () -> x.root(1));
        DUE.is("its LABEL", 1, () -> x.about(1, 3));
        DUE.is("not KEEN any more", 0, () -> x.about(1, 2));
        DUE.is("the second is the first now", 37, () -> x.row(5, 0));
        DUE.is("wish(2)", 37, () -> x.wish(2));
        DUE.is("its LABEL", 2, () -> x.about(2, 3));
        DUE.is("an empty QUEUE again", 0, () -> x.wish(2));
        DUE.is("root 2 keeps it", 37, () -> x.root(2));
    }

    private static void wishThrows() {
        StoreNotes x = new StoreNotes(32, 6, 6, 4);
        DUE.bounds("wish(16) of an empty QUEUE", x, () -> x.wish(16));
        x.make(0, 0, 1, true);
        x.move(0, -1);
        x.collect(0);
        DUE.bounds("wish(-1)", x, () -> x.wish(-1));
        DUE.bounds("wish(16)", x, () -> x.wish(16));
        DUE.is("wish(15)", 33, () -> x.wish(15));
    }
}
