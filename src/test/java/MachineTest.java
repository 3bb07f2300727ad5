/** Promises 17 to 20: code, scrap, run, count. */
public final class MachineTest {
    private static final Due DUE = new Due();
    private static final int MAX = Integer.MAX_VALUE;
    private static final int MIN = Integer.MIN_VALUE;

    private static final int STOP = 0;
    private static final int NEW = 1;
    private static final int PUT = 2;
    private static final int GET = 3;
    private static final int MOVE = 4;
    private static final int PUSH = 5;
    private static final int POP = 6;
    private static final int SET = 7;
    private static final int ADD = 8;
    private static final int NAME = 9;
    private static final int IFNULL = 10;
    private static final int IFLESS = 11;
    private static final int GOTO = 12;
    private static final int IFSAME = 13;
    private static final int NEWKEEN = 14;

    public static void main(String[] args) {
        codeAndScrap();
        stop();
        noneAnyMore();
        stepsAreDone();
        runThrows();
        makingInstructions();
        storingInstructions();
        stackInstructions();
        numberInstructions();
        jumps();
        wrongNumbers();
        rightNumbers();
        numbersAreLookedAtWhenItIsDone();
        nullRoots();
        noSuchField();
        stackEnds();
        full();
        endsInTheirOrder();
        countThrows();
        counts();
        DUE.end();
    }

    private static StoreNotes fresh() {
        return new StoreNotes(32, 1, 1, 8);
    }

    /** A fresh object that has this CODE, four numbers an instruction. */
    private static StoreNotes with(int... numbers) {
        StoreNotes x = fresh();
        append(x, numbers);
        return x;
    }

    private static void append(StoreNotes x, int... numbers) {
        for (int k = 0; k + 3 < numbers.length; k += 4) {
            x.code(numbers[k], numbers[k + 1], numbers[k + 2], numbers[k + 3]);
        }
    }

    private static void ends(String told, StoreNotes x, int end, int place, int steps) {
        DUE.is(told, end, () -> x.run(0, 400));
        DUE.is("PLACE of " + told, place, () -> x.count(16));
        DUE.is("steps of " + told, steps, () -> x.count(15));
    }

    private static void codeAndScrap() {
        StoreNotes x = fresh();
        DUE.is("scrap of nothing", 0, x::scrap);
        for (int k = 1; k <= 64; k++) {
            DUE.is("code", k, () -> x.code(GOTO, 64, 0, 0));
        }
        DUE.state("a 65th", x, () -> x.code(STOP, 0, 0, 0));
        x.run(63, 1);
        DUE.is("PLACE", 64, () -> x.count(16));
        DUE.is("scrap", 64, x::scrap);
        DUE.is("PLACE stays", 64, () -> x.count(16));
        DUE.is("scrap again", 0, x::scrap);
        DUE.is("any number", 1, () -> x.code(MIN, MAX, MIN, -1));
        DUE.is("the new first one is WRONG", 1, () -> x.run(0, 1));
    }

    private static void stop() {
        ends("STOP", with(STOP, 99, -1, MIN), 0, 0, 1);
        ends("SET and STOP", with(SET, 0, 7, 99, STOP, 0, 0, 0, SET, 0, 8, 0), 0, 1, 2);
    }

    private static void noneAnyMore() {
        ends("no CODE", fresh(), 0, 0, 0);
        ends("SET", with(SET, 3, MIN, 99), 0, 1, 1);
        StoreNotes x = with(SET, 0, 0, 0);
        DUE.is("none any more comes before no steps", 0, () -> x.run(1, 0));
    }

    private static void stepsAreDone() {
        StoreNotes x = with(ADD, 0, 0, 1, GOTO, 0, 0, 0);
        x.code(SET, 1, 1, 0);
        x.run(2, 1);
        DUE.is("no steps", 6, () -> x.run(1, 0));
        DUE.is("PLACE", 1, () -> x.count(16));
        DUE.is("three steps", 6, () -> x.run(0, 3));
        DUE.is("PLACE of the next one", 1, () -> x.count(16));
        DUE.is("x 0", 2, () -> x.count(17));
        DUE.is("400 steps", 6, () -> x.run(0, 400));
        DUE.is("x 0", 202, () -> x.count(17));
        DUE.is("steps ever", 404, () -> x.count(15));
        DUE.is("the last one as the last step", 0, () -> x.run(2, 1));
        StoreNotes y = with(STOP, 0, 0, 0);
        DUE.is("STOP is not done with no steps", 6, () -> y.run(0, 0));
        DUE.is("STOP as the last step", 0, () -> y.run(0, 1));
    }

    private static void runThrows() {
        StoreNotes x = with(SET, 0, 1, 0);
        DUE.bounds("run(-1, 0)", x, () -> x.run(-1, 0));
        DUE.bounds("run(2, 0)", x, () -> x.run(2, 0));
        DUE.bounds("run(MAX, 0)", x, () -> x.run(MAX, 0));
        DUE.bounds("a wrong place is told before wrong steps", x, () -> x.run(2, 401));
        DUE.argument("run(0, -1)", x, () -> x.run(0, -1));
        DUE.argument("run(0, 401)", x, () -> x.run(0, 401));
        DUE.argument("run(1, 401)", x, () -> x.run(1, 401));
        x.scrap();
        DUE.bounds("behind scrap", x, () -> x.run(1, 0));
    }

    private static void makingInstructions() {
        StoreNotes x = with(SET, 5, -9, 0, NEW, 2, 3, 5, NEWKEEN, 15, 6, 0);
        ends("NEW and NEWKEEN", x, 0, 3, 3);
        DUE.is("NEW", 1, () -> x.root(2));
        DUE.is("its HEAD", 3, () -> x.word(1));
        DUE.is("its LABEL", -9, () -> x.word(2));
        DUE.is("NEWKEEN", 6, () -> x.root(15));
        DUE.is("its HEAD", 70, () -> x.word(6));
        DUE.is("its LABEL", 0, () -> x.word(7));
        DUE.is("WISHES", 1, () -> x.count(7));
        DUE.is("the wish", 6, () -> x.row(4, 0));
    }

    private static void storingInstructions() {
        StoreNotes x = with(NEW, 0, 2, 0, NEW, 1, 1, 0, PUT, 0, 1, 1, PUT, 1, 0, 1, GET, 2, 0, 1, MOVE, 3, 0, 99,
            PUT, 1, 0, -1, PUT, 0, 0, 9, MOVE, 1, -1, 0);
        ends("PUT, GET, MOVE", x, 0, 9, 9);
        DUE.is("the field", 5, () -> x.about(0, 6));
        DUE.is("GET", 5, () -> x.root(2));
        DUE.is("MOVE", 1, () -> x.root(3));
        DUE.is("PUT of NONE", 0, () -> x.about(2, 5));
        DUE.is("MOVE of NONE", 0, () -> x.root(1));
        DUE.is("notes", 2, () -> x.count(5));
        DUE.is("the first note", 4, () -> x.row(2, 0));
        DUE.is("the second note", 7, () -> x.row(2, 1));
        append(x, GET, 3, 3, 0);
        DUE.is("GET of NULL into its own root", 0, () -> x.run(9, 1));
        DUE.is("root 3", 0, () -> x.root(3));
    }

    private static void stackInstructions() {
        StoreNotes x = with(NEW, 0, 0, 0, PUSH, 0, 99, 99, PUSH, 1, 0, 0, POP, 2, 99, 99, POP, 3, 0, 0, PUSH, 3, 0, 0);
        ends("PUSH and POP", x, 0, 6, 6);
        DUE.is("root 2", 0, () -> x.root(2));
        DUE.is("root 3", 1, () -> x.root(3));
        DUE.is("the STACK", 1, () -> x.count(6));
        DUE.is("its place", 1, () -> x.row(3, 0));
    }

    private static void numberInstructions() {
        StoreNotes x = with(SET, 0, MAX, 0, SET, 7, 1, 0, ADD, 1, 0, 7, ADD, 2, 7, 7, ADD, 2, 2, 2, NEW, 4, 0, 2,
            SET, 2, MIN, 0, NAME, 6, 4, 99);
        ends("SET, ADD, NAME", x, 0, 8, 8);
        DUE.is("x 0", MAX, () -> x.count(17));
        DUE.is("x 1 wraps", MIN, () -> x.count(18));
        DUE.is("x 2", MIN, () -> x.count(19));
        DUE.is("x 6", 4, () -> x.count(23));
        DUE.is("x 7", 1, () -> x.count(24));
    }

    private static void jumps() {
        ends("GOTO", with(GOTO, 2, 99, 99, STOP, 0, 0, 0, SET, 0, 0, 0), 0, 3, 2);
        ends("GOTO behind the last", with(GOTO, 2, 0, 0, STOP, 0, 0, 0), 0, 2, 1);
        ends("GOTO itself", with(GOTO, 0, 0, 0), 6, 0, 400);
        ends("IFNULL of NULL", with(IFNULL, 0, 2, 99, STOP, 0, 0, 0), 0, 2, 1);
        ends("IFNULL of an object", with(NEW, 0, 0, 0, IFNULL, 0, 3, 0, STOP, 0, 0, 0), 0, 2, 3);
        ends("IFLESS of the same", with(IFLESS, 0, 1, 2, STOP, 0, 0, 0), 0, 1, 2);
        ends("IFLESS of less", with(SET, 0, MIN, 0, IFLESS, 0, 1, 3, STOP, 0, 0, 0), 0, 3, 2);
        ends("IFLESS of more", with(SET, 0, 1, 0, IFLESS, 0, 1, 3, STOP, 0, 0, 0), 0, 2, 3);
        ends("IFSAME of NULLs", with(IFSAME, 0, 15, 2, STOP, 0, 0, 0), 0, 2, 1);
        ends("IFSAME of itself", with(NEW, 0, 0, 0, IFSAME, 0, 0, 3, STOP, 0, 0, 0), 0, 3, 2);
        ends("IFSAME of others", with(NEW, 0, 0, 0, NEW, 1, 0, 0, IFSAME, 0, 1, 4, STOP, 0, 0, 0), 0, 3, 4);
    }

    private static void wrongNumbers() {
        int[][] wrong = {{-1, 0, 0, 0}, {15, 0, 0, 0}, {MAX, 0, 0, 0}, {MIN, 0, 0, 0}, {NEW, -1, 0, 0},
            {NEW, 16, 0, 0}, {NEW, 0, -1, 0}, {NEW, 0, 7, 0}, {NEW, 0, 0, -1}, {NEW, 0, 0, 8}, {PUT, -1, 0, 0},
            {PUT, 16, 0, 0}, {PUT, 0, -1, 0}, {PUT, 0, 6, 0}, {PUT, 0, MAX, 0}, {PUT, 0, MIN, 0}, {PUT, 0, 0, 16},
            {PUT, 0, 0, -2}, {GET, -1, 0, 0}, {GET, 16, 0, 0}, {GET, 0, -1, 0}, {GET, 0, 16, 0}, {GET, 0, 0, -1},
            {GET, 0, 0, 6}, {GET, 0, 0, MAX}, {GET, 0, 0, MIN}, {MOVE, -1, 0, 0}, {MOVE, 16, 0, 0}, {MOVE, 0, 16, 0},
            {MOVE, 0, -2, 0}, {PUSH, -1, 0, 0}, {PUSH, 16, 0, 0}, {POP, -1, 0, 0}, {POP, 16, 0, 0}, {SET, -1, 0, 0},
            {SET, 8, 0, 0}, {ADD, -1, 0, 0},
            {ADD, 8, 0, 0}, {ADD, 0, -1, 0}, {ADD, 0, 8, 0}, {ADD, 0, 0, -1}, {ADD, 0, 0, 8}, {NAME, -1, 0, 0},
            {NAME, 8, 0, 0}, {NAME, 0, -1, 0}, {NAME, 0, 16, 0}, {IFNULL, -1, 0, 0}, {IFNULL, 16, 0, 0},
            {IFNULL, 0, -1, 0}, {IFNULL, 0, 2, 0}, {IFLESS, -1, 0, 0}, {IFLESS, 8, 0, 0}, {IFLESS, 0, -1, 0},
            {IFLESS, 0, 8, 0}, {IFLESS, 0, 0, -1}, {IFLESS, 0, 0, 2}, {GOTO, -1, 0, 0}, {GOTO, 2, 0, 0},
            {IFSAME, -1, 0, 0}, {IFSAME, 16, 0, 0}, {IFSAME, 0, -1, 0}, {IFSAME, 0, 16, 0}, {IFSAME, 0, 0, -1},
            {IFSAME, 0, 0, 2}, {NEWKEEN, -1, 0, 0}, {NEWKEEN, 16, 0, 0}, {NEWKEEN, 0, -1, 0}, {NEWKEEN, 0, 7, 0},
            {NEWKEEN, 0, 0, -1}, {NEWKEEN, 0, 0, 8}};
        for (int[] known : wrong) {
            StoreNotes x = with(known);
            x.make(0, 1, 3, false);
            x.keep(0);
            String before = State.of(x);
            String told = known[0] + " " + known[1] + " " + known[2] + " " + known[3];
            DUE.is("WRONG " + told, 1, () -> x.run(0, 9));
            DUE.same("the state behind WRONG " + told, State.of(x), before);
        }
    }

    private static void rightNumbers() {
        int[][] right = {{NEW, 15, 6, 7}, {PUT, 15, 5, -1}, {GET, 15, 15, 5}, {MOVE, 15, 15, 0}, {PUSH, 15, 0, 0},
            {POP, 15, 0, 0}, {SET, 7, MIN, 0}, {ADD, 7, 7, 7}, {NAME, 7, 15, 0}, {IFNULL, 15, 1, 0},
            {IFLESS, 7, 7, 1}, {GOTO, 1, 0, 0}, {IFSAME, 15, 15, 1}, {NEWKEEN, 15, 6, 7}, {PUT, 15, 0, 15},
            {GET, 0, 15, 0}, {STOP, -1, -1, -1}};
        for (int[] known : right) {
            StoreNotes x = with(known);
            x.make(15, 6, 3, false);
            x.keep(15);
            String told = known[0] + " " + known[1] + " " + known[2] + " " + known[3];
            DUE.is("not WRONG " + told, 0, () -> x.run(0, 9));
            DUE.is("a step " + told, 1, () -> x.count(15));
        }
    }

    private static void numbersAreLookedAtWhenItIsDone() {
        StoreNotes x = with(GOTO, 2, 0, 0);
        DUE.is("no such place yet", 1, () -> x.run(0, 9));
        append(x, STOP, 0, 0, 0);
        DUE.is("now there is one", 0, () -> x.run(0, 9));
        DUE.is("PLACE", 2, () -> x.count(16));
        StoreNotes y = with(GOTO, 2, 0, 0, SET, 9, 0, 0, SET, 0, 1, 0);
        DUE.is("what is passed over is not looked at", 0, () -> y.run(0, 9));
    }

    private static void nullRoots() {
        ends("PUT", with(SET, 0, 1, 0, PUT, 3, 0, 3), 2, 1, 1);
        ends("PUT of the last field of NULL", with(PUT, 3, 5, -1), 2, 0, 0);
        ends("GET", with(GET, 3, 4, 0), 2, 0, 0);
        ends("GET of the last field of NULL", with(GET, 3, 4, 5), 2, 0, 0);
        ends("NAME", with(NAME, 3, 4, 0), 2, 0, 0);
        ends("GET into a root of NULL", with(NEW, 4, 1, 0, GET, 3, 4, 0), 0, 2, 2);
    }

    private static void noSuchField() {
        int[] none = {2, 3, 4, 5};
        for (int field : none) {
            ends("PUT " + field, with(NEW, 0, 2, 0, PUT, 0, field, 0), 3, 1, 1);
            ends("GET " + field, with(NEW, 0, 2, 0, GET, 0, 0, field), 3, 1, 1);
        }
        ends("PUT to none", with(NEW, 0, 0, 0, PUT, 0, 0, -1), 3, 1, 1);
        ends("a wrong root is told before a wrong field", with(NEW, 0, 2, 0, PUT, 0, 2, 16), 1, 1, 1);
    }

    private static void stackEnds() {
        ends("POP of nothing", with(SET, 0, 1, 0, POP, 0, 0, 0), 4, 1, 1);
        StoreNotes x = with(PUSH, 0, 0, 0, GOTO, 0, 0, 0);
        ends("PUSH of a 41st", x, 4, 0, 80);
        DUE.is("the STACK", 40, () -> x.count(6));
    }

    private static void full() {
        StoreNotes x = new StoreNotes(16, 6, 6, 8);
        append(x, NEWKEEN, 1, 6, 0, NEW, 2, 6, 0, NEWKEEN, 3, 0, 0);
        ends("FULL", x, 5, 2, 2);
        DUE.is("root 3", 0, () -> x.root(3));
        DUE.is("WISHES", 1, () -> x.count(7));
        DUE.is("the collections were made", 3, () -> x.count(9) + x.count(10) + x.count(11));
        DUE.is("root 1 follows", 17, () -> x.root(1));
        x.move(2, -1);
        DUE.is("then there is room", 0, () -> x.run(2, 1));
        DUE.is("root 3", 9, () -> x.root(3));
        DUE.is("steps", 3, () -> x.count(15));
    }

    private static void endsInTheirOrder() {
        StoreNotes x = with(POP, 16, 0, 0);
        DUE.is("steps are told before WRONG", 6, () -> x.run(0, 0));
        DUE.is("WRONG is told before an empty STACK", 1, () -> x.run(0, 1));
        ends("a wrong root is told before NULL", with(PUT, 0, 0, 16), 1, 0, 0);
        ends("a field that is none is told before NULL", with(PUT, 0, -1, 0), 1, 0, 0);
        ends("the same behind the last field", with(PUT, 0, 6, 0), 1, 0, 0);
        ends("the same of GET", with(GET, 0, 0, -1), 1, 0, 0);
        ends("the same of GET behind the last field", with(GET, 0, 0, 6), 1, 0, 0);
        StoreNotes z = with(SET, 0, 1, 0, POP, 0, 0, 0);
        DUE.is("steps are told before an empty STACK", 6, () -> z.run(0, 1));
        DUE.is("PLACE", 1, () -> z.count(16));
        DUE.is("then the STACK", 4, () -> z.run(1, 1));
    }

    private static void countThrows() {
        StoreNotes x = fresh();
        DUE.bounds("count(-1)", x, () -> x.count(-1));
        DUE.bounds("count(25)", x, () -> x.count(25));
        DUE.bounds("count(MAX)", x, () -> x.count(MAX));
        DUE.bounds("count(MIN)", x, () -> x.count(MIN));
    }

    /** Every what has another answer. */
    private static void counts() {
        StoreNotes x = new StoreNotes(32, 0, 0, 4);
        x.make(0, 6, 0, false);
        x.collect(0);
        x.collect(1);
        x.make(1, 3, 0, false);
        x.collect(0);
        x.make(2, 0, 0, true);
        for (int k = 0; k < 5; k++) {
            x.put(0, k, k < 3 ? 2 : 1);
        }
        x.put(0, 5, 0);
        for (int k = 0; k < 7; k++) {
            x.keep(0);
            append(x, SET, k, 30 + k, 0);
        }
        append(x, SET, 7, 37, 0, SET, 0, 30, 0, SET, 0, 30, 0);
        x.run(0, 9);
        int[] due = {2, 5, 8, 3, 1, 2, 7, 1, 0, 2, 1, 0, 1, 21, 3, 9, 9, 30, 31, 32, 33, 34, 35, 36, 37};
        for (int what = 0; what < due.length; what++) {
            int asked = what;
            DUE.is("count(" + what + ")", due[what], () -> x.count(asked));
        }
    }
}
