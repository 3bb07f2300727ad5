/** The sentences on THE MACHINE that name an edge: each way in which it ENDS, their order, its PLACE, its numbers. */
public final class MachineEdgesTest {
    private static final Due DUE = new Due();
    private static final int MAX = Heaps.MAX;
    private static final int MIN = Heaps.MIN;
    private static final int NONE = Heaps.NONE;

    private static final int STOP = 0;
    private static final int NEW = 1;
    private static final int PUT = 2;
    private static final int GET = 3;
    private static final int MOVE = 4;
    private static final int PUSH = 5;
    private static final int POP = 6;
    private static final int SET = 7;
    private static final int ADD = 8;
    private static final int NAME = 9;
    private static final int IFNULL = 10;
    private static final int IFLESS = 11;
    private static final int GOTO = 12;
    private static final int IFSAME = 13;
    private static final int NEWKEEN = 14;

    /** What is told of a, b and c of each instruction: v is any number, - is not told. */
    private static final String[] TOLD = {"---", "rni", "rfq", "rrf", "rq-", "r--", "r--", "iv-", "iii", "ir-", "rp-",
        "iip", "p--", "rrp", "rni"};

    public static void main(String[] args) {
        noSuchInstruction();
        numbersThatAreAsTold();
        numbersThatAreNotAsTold();
        untoldIsNotLookedAt();
        placesAsManyAsInstructions();
        placesAreLookedAtEvenIfNotTaken();
        noneAnyMoreIsFirst();
        stepsAreSecond();
        wrongIsThird();
        nullIsFourth();
        noSuchFieldIsFifth();
        stackIsSixth();
        fullIsByDoingIt();
        stopIsAStep();
        whatEndsItDoesNothing();
        placeOfEachEnd();
        stepsFromNoneToFourHundred();
        sixtyFourInARow();
        makesAsTheCallsDo();
        storesAsTheCallsDo();
        leadsAsTheCallsDo();
        additionWraps();
        lessFromTheLeastToTheGreatest();
        sameAndNull();
        namesAreLabels();
        numbersStayBetweenRuns();
        placeStaysBehindScrap();
        DUE.end();
    }

    /** SIZE 128; roots 0 and 15 have objects of six fields, there is one on the STACK and a STOP at place 0. */
    private static StoreNotes ready(int... code) {
        StoreNotes x = new StoreNotes(128, 0, 0, 2);
        x.make(0, 6, 70, false);
        x.make(15, 6, 85, false);
        x.keep(15);
        x.code(STOP, 0, 0, 0);
        Heaps.append(x, code);
        return x;
    }

    private static String text(int[] code) {
        return code[0] + " " + code[1] + " " + code[2] + " " + code[3];
    }

    private static void ends(String told, StoreNotes x, int from, int steps, int end, int place, int done) {
        int before = x.count(15);
        DUE.is(told, end, () -> x.run(from, steps));
        DUE.is("PLACE of " + told, place, () -> x.count(16));
        DUE.is("steps of " + told, done, () -> x.count(15) - before);
    }

    /** One instruction at place 1 ends it at once and does nothing. */
    private static void endsAtOnce(int end, int... code) {
        StoreNotes x = ready(code);
        StoreNotes y = ready(code);
        ends(text(code), x, 1, 1, end, 1, 0);
        DUE.same("the heap behind " + text(code), State.ofHeap(x), State.ofHeap(y));
        for (int what = 17; what <= 24; what++) {
            int asked = what;
            DUE.is("NUMBERS behind " + text(code), y.count(what), () -> x.count(asked));
        }
    }

    /** It is done, as the only step. */
    private static void isDone(int... code) {
        StoreNotes x = ready(code);
        DUE.is("done " + text(code), 1, () -> {
            int end = x.run(1, 1);
            return end == 0 || end == 6 ? 1 : 0;
        });
        DUE.is("a step " + text(code), 1, () -> x.count(15));
    }

    /** "the instruction is none": numbers 0 .. 14 are instructions. */
    private static void noSuchInstruction() {
        int[] none = {-1, 15, MIN, MAX, 16, -14};
        for (int what : none) {
            endsAtOnce(1, what, 0, 0, 0);
        }
        for (int what = 0; what <= 14; what++) {
            isDone(what, 0, 0, 0);
        }
    }

    private static int[] rightOf(char kind) {
        switch (kind) {
            case 'r':
                return new int[] {0, 15};
            case 'q':
                return new int[] {NONE, 0, 15};
            case 'n':
                return new int[] {0, 6};
            case 'f':
                return new int[] {0, 5};
            case 'i':
                return new int[] {0, 7};
            case 'p':
                return new int[] {0, 2};
            default:
                return new int[] {MIN, -1, 0, MAX};
        }
    }

    private static int[] wrongOf(char kind) {
        switch (kind) {
            case 'r':
                return new int[] {-1, 16, MIN, MAX};
            case 'q':
                return new int[] {-2, 16, MIN, MAX};
            case 'n':
                return new int[] {-1, 7, MIN, MAX};
            case 'f':
                return new int[] {-1, 6, MIN, MAX};
            case 'i':
                return new int[] {-1, 8, MIN, MAX};
            case 'p':
                return new int[] {-1, 3, MIN, MAX};
            default:
                return new int[0];
        }
    }

    /** "r is a root, f a field's number, p a place 0 .. how many instructions there are, i a NUMBER" */
    private static void numbersThatAreAsTold() {
        for (int what = 0; what <= 14; what++) {
            for (int k = 0; k < 3; k++) {
                for (int right : rightOf(TOLD[what].charAt(k))) {
                    int[] code = {what, 0, 0, 0};
                    code[k + 1] = right;
                    isDone(code);
                }
            }
        }
    }

    /** "1 WRONG: the instruction is none, or has a number that is not as told" */
    private static void numbersThatAreNotAsTold() {
        for (int what = 0; what <= 14; what++) {
            for (int k = 0; k < 3; k++) {
                for (int wrong : wrongOf(TOLD[what].charAt(k))) {
                    int[] code = {what, 0, 0, 0};
                    code[k + 1] = wrong;
                    endsAtOnce(1, code);
                }
            }
        }
    }

    /** "What is not told is not looked at." */
    private static void untoldIsNotLookedAt() {
        int[] any = {MIN, -2, -1, 16, MAX};
        for (int what = 0; what <= 14; what++) {
            for (int number : any) {
                int[] code = {what, 0, 0, 0};
                for (int k = 0; k < 3; k++) {
                    code[k + 1] = TOLD[what].charAt(k) == '-' ? number : 0;
                }
                isDone(code);
            }
        }
    }

    /** "p a place 0 .. how many instructions there are": as many as there are when it is done. */
    private static void placesAsManyAsInstructions() {
        StoreNotes x = Heaps.bare(GOTO, 2, 0, 0);
        ends("GOTO 2 of one", x, 0, 9, 1, 0, 0);
        x.code(GOTO, 64, 0, 0);
        ends("GOTO 2 of two", x, 0, 9, 0, 2, 1);
        for (int k = 2; k < 63; k++) {
            x.code(STOP, 0, 0, 0);
        }
        ends("GOTO 64 of 63", x, 1, 9, 1, 1, 0);
        x.code(STOP, 0, 0, 0);
        ends("GOTO 64 of 64", x, 1, 9, 0, 64, 1);
        StoreNotes y = Heaps.bare(GOTO, 1, 0, 0, GOTO, 0, 0, 0);
        ends("GOTO 0", y, 1, 1, 6, 0, 1);
    }

    private static void placesAreLookedAtEvenIfNotTaken() {
        endsAtOnce(1, IFNULL, 0, 3, 0);
        endsAtOnce(1, IFLESS, 0, 0, 3);
        endsAtOnce(1, IFSAME, 0, 15, 3);
        ends("IFNULL that is not taken", ready(IFNULL, 0, 0, 0), 1, 9, 0, 2, 1);
        ends("IFNULL that is taken", ready(IFNULL, 1, 0, 0), 1, 9, 0, 0, 2);
        ends("IFLESS that is not taken", ready(IFLESS, 0, 0, 0), 1, 9, 0, 2, 1);
        ends("IFSAME that is not taken", ready(IFSAME, 0, 15, 0), 1, 9, 0, 2, 1);
        ends("IFSAME that is taken", ready(IFSAME, 15, 15, 0), 1, 9, 0, 0, 2);
    }

    /** "0 there is none any more": before 6. */
    private static void noneAnyMoreIsFirst() {
        ends("no CODE, no steps", Heaps.bare(), 0, 0, 0, 0, 0);
        ends("no CODE", Heaps.bare(), 0, 400, 0, 0, 0);
        ends("behind the last one, no steps", ready(), 1, 0, 0, 1, 0);
        ends("the last step leads behind the last one", ready(SET, 0, 1, 0), 1, 1, 0, 2, 1);
        ends("so does a jump", ready(GOTO, 3, 0, 0, STOP, 0, 0, 0), 1, 1, 0, 3, 1);
        ends("one step more is told", ready(SET, 0, 1, 0), 1, 2, 0, 2, 1);
    }

    /** "6 as many steps were done as are told": before all that is looked at in the instruction. */
    private static void stepsAreSecond() {
        int[][] codes = {{99, 0, 0, 0}, {PUT, 1, 0, 0}, {PUT, 16, 0, 0}, {GET, 0, 1, 0}, {NAME, 0, 1, 0},
            {STOP, 0, 0, 0}, {SET, 0, 1, 0}, {PUSH, 16, 0, 0}};
        for (int[] code : codes) {
            endsAtOnceWithoutSteps(code);
            StoreNotes x = ready(SET, 7, 9, 0, code[0], code[1], code[2], code[3]);
            ends("one step before " + text(code), x, 1, 1, 6, 2, 1);
        }
        StoreNotes y = Heaps.bare(POP, 0, 0, 0, NEW, 2, 0, 0);
        ends("an empty STACK", y, 0, 0, 6, 0, 0);
        y.make(0, 6, 0, false);
        y.make(1, 6, 0, false);
        ends("FULL", y, 1, 0, 6, 1, 0);
        DUE.is("no collections", 0, () -> y.count(9) + y.count(10) + y.count(11));
    }

    private static void endsAtOnceWithoutSteps(int[] code) {
        StoreNotes x = ready(code);
        String before = State.ofHeap(x);
        ends("no steps " + text(code), x, 1, 0, 6, 1, 0);
        DUE.same("the heap behind no steps " + text(code), State.ofHeap(x), before);
    }

    /** "1 WRONG": before 2, 3, 4 and 5. */
    private static void wrongIsThird() {
        endsAtOnce(1, PUT, 1, 0, 16);
        endsAtOnce(1, PUT, 1, 6, 0);
        endsAtOnce(1, PUT, 1, -1, NONE);
        endsAtOnce(1, GET, 16, 1, 0);
        endsAtOnce(1, GET, 0, 1, 6);
        endsAtOnce(1, NAME, 8, 1, 0);
        StoreNotes x = ready(PUT, 1, 5, 16, PUSH, 16, 0, 0, POP, -1, 0, 0);
        x.make(1, 2, 0, false);
        ends("before no such field", x, 1, 9, 1, 1, 0);
        while (x.count(6) < 40) {
            x.keep(0);
        }
        ends("before a full STACK", x, 2, 9, 1, 2, 0);
        while (x.count(6) > 0) {
            x.back(2);
        }
        ends("before an empty STACK", x, 3, 9, 1, 3, 0);
        int[][] wrongOnes = {{16, 0, 0}, {2, 7, 0}, {2, 0, 8}};
        for (int[] known : wrongOnes) {
            StoreNotes y = Heaps.bare(NEW, known[0], known[1], known[2], NEWKEEN, known[0], known[1], known[2]);
            y.make(0, 6, 0, false);
            y.make(1, 6, 0, false);
            ends("NEW before FULL", y, 0, 9, 1, 0, 0);
            ends("NEWKEEN before FULL", y, 1, 9, 1, 1, 0);
            DUE.is("no collections", 0, () -> y.count(9));
        }
    }

    /** "2 a root has NULL where an object is wanted": before 3. */
    private static void nullIsFourth() {
        for (int field = 0; field <= 5; field++) {
            endsAtOnce(2, PUT, 1, field, 0);
            endsAtOnce(2, PUT, 14, field, NONE);
            endsAtOnce(2, GET, 0, 1, field);
        }
        endsAtOnce(2, NAME, 0, 1, 0);
        endsAtOnce(2, NAME, 7, 14, 0);
        isDone(PUT, 0, 0, 1);
        isDone(GET, 1, 0, 0);
        isDone(MOVE, 0, 1, 0);
        isDone(PUSH, 1, 0, 0);
        isDone(POP, 1, 0, 0);
        isDone(IFNULL, 1, 0, 0);
        isDone(IFSAME, 1, 2, 0);
        isDone(IFSAME, 0, 1, 0);
        isDone(NEW, 1, 0, 0);
    }

    /** "3 no such field" */
    private static void noSuchFieldIsFifth() {
        for (int fields = 0; fields <= 6; fields++) {
            for (int field = 0; field <= 5; field++) {
                StoreNotes x = Heaps.bare(PUT, 3, field, NONE, GET, 4, 3, field);
                x.make(3, fields, 0, false);
                String told = "field " + field + " of " + fields;
                int end = field < fields ? 6 : 3;
                int done = field < fields ? 1 : 0;
                ends("PUT " + told, x, 0, 1, end, done, done);
                ends("GET " + told, x, 1, 1, field < fields ? 0 : 3, 1 + done, done);
            }
        }
    }

    /** "4 the STACK is full, or empty" */
    private static void stackIsSixth() {
        StoreNotes x = Heaps.bare(PUSH, 0, 0, 0, GOTO, 0, 0, 0, POP, 1, 0, 0, GOTO, 2, 0, 0);
        x.make(0, 0, 0, false);
        ends("a 41st", x, 0, 400, 4, 0, 80);
        DUE.is("40 are there", 40, () -> x.count(6));
        ends("one more goes", x, 2, 1, 6, 3, 1);
        ends("one more comes", x, 0, 1, 6, 1, 1);
        Heaps.drop(x, 0);
        ends("NULL is too much, too", x, 0, 1, 4, 0, 0);
        ends("none any more", x, 2, 400, 4, 2, 80);
        DUE.is("none is there", 0, () -> x.count(6));
        DUE.is("root 1 keeps the last one", 1, () -> x.root(1));
        ends("NULL comes", x, 0, 1, 6, 1, 1);
        ends("NULL goes", x, 2, 1, 6, 3, 1);
        DUE.is("root 1 has it", 0, () -> x.root(1));
    }

    /** "by doing it: 5 FULL": the COLLECTIONS before it are made, the root keeps what it has, it is no step. */
    private static void fullIsByDoingIt() {
        int[] makers = {NEW, NEWKEEN};
        for (int what : makers) {
            StoreNotes x = new StoreNotes(16, 6, 6, 2);
            Heaps.append(x, SET, 0, 1, 0, what, 1, 0, 0, SET, 0, 2, 0);
            x.make(0, 6, 0, false);
            x.make(1, 6, 1, true);
            StoreNotes y = new StoreNotes(16, 6, 6, 2);
            y.make(0, 6, 0, false);
            y.make(1, 6, 1, true);
            for (int g = 0; g <= 2; g++) {
                y.collect(g);
            }
            ends("FULL", x, 0, 9, 5, 1, 1);
            DUE.same("the collections alone", State.ofHeap(x), State.ofHeap(y));
            DUE.is("what comes behind it is not done", 1, () -> x.count(17));
            x.move(0, NONE);
            ends("with room", x, 1, 9, 0, 3, 2);
            DUE.is("WISHES", what == NEWKEEN ? 2 : 1, () -> x.count(7));
        }
    }

    /** "0 STOP (which is a step)" */
    private static void stopIsAStep() {
        ends("STOP", ready(), 0, 400, 0, 0, 1);
        ends("STOP as the last step", ready(), 0, 1, 0, 0, 1);
        ends("STOP without a step", ready(), 0, 0, 6, 0, 0);
        ends("STOP as the 400th step", ready(SET, 7, 399, 0, SET, 6, 1, 0), 0, 400, 0, 0, 1);
        StoreNotes x = ready(ADD, 0, 0, 1, IFLESS, 0, 2, 1, STOP, 0, 0, 0, SET, 1, 1, 0, SET, 2, 199, 0);
        x.run(4, 2);
        ends("STOP behind 398 steps", x, 1, 400, 0, 3, 399);
        x.run(4, 2);
        DUE.is("x 0", 199, () -> x.count(17));
    }

    /** "What ends it by 1 to 5 does nothing": a twin that stops before it is the same. */
    private static void whatEndsItDoesNothing() {
        int[][] last = {{PUT, 0, 0, 16}, {NEWKEEN, 0, 7, 0}, {GET, 0, 1, 0}, {PUT, 5, 2, 0}, {GET, 5, 5, 5},
            {99, 1, 1, 1}, {NAME, 3, 1, 0}};
        int[] due = {1, 1, 2, 3, 3, 1, 2};
        for (int k = 0; k < last.length; k++) {
            StoreNotes x = ready(NEW, 5, 2, 3, PUT, 0, 0, 5, last[k][0], last[k][1], last[k][2], last[k][3]);
            StoreNotes y = ready(NEW, 5, 2, 3, PUT, 0, 0, 5, last[k][0], last[k][1], last[k][2], last[k][3]);
            ends("behind two steps " + text(last[k]), x, 1, 400, due[k], 3, 2);
            y.run(1, 2);
            DUE.same("the state behind two steps", State.of(x), State.of(y));
        }
    }

    /** "Its PLACE then is that of the instruction that ended it (with 6 of the one that comes next)." */
    private static void placeOfEachEnd() {
        StoreNotes x = ready(GOTO, 3, 0, 0, 99, 0, 0, 0, PUT, 1, 0, 0, PUT, 0, 0, 0, GOTO, 0, 0, 0);
        DUE.is("0 before", 0, () -> x.count(16));
        ends("NULL behind a jump", x, 1, 9, 2, 3, 1);
        ends("WRONG", x, 2, 9, 1, 2, 0);
        ends("no steps", x, 4, 0, 6, 4, 0);
        ends("a step", x, 4, 1, 6, 5, 1);
        ends("two steps, a jump", x, 4, 2, 6, 0, 2);
        ends("STOP behind a jump", x, 4, 3, 0, 0, 3);
        ends("none any more", x, 6, 9, 0, 6, 0);
        DUE.bounds("a wrong place changes no PLACE", x, () -> x.run(7, 1));
        DUE.argument("wrong steps change no PLACE", x, () -> x.run(2, 401));
    }

    /** "IllegalArgumentException: steps are not 0 .. 400": as many as are told are done. */
    private static void stepsFromNoneToFourHundred() {
        int[] told = {0, 1, 2, 399, 400};
        for (int steps : told) {
            StoreNotes x = ready(ADD, 0, 0, 1, GOTO, 1, 0, 0, SET, 1, 1, 0);
            x.run(3, 1);
            ends(steps + " steps", x, 1, steps, 6, 1 + steps % 2, steps);
            DUE.is("x 0 behind " + steps, (steps + 1) / 2, () -> x.count(17));
        }
    }

    private static void sixtyFourInARow() {
        StoreNotes x = Heaps.bare(SET, 1, 1, 0);
        for (int k = 1; k < 64; k++) {
            x.code(ADD, 0, 0, 1);
        }
        ends("all but one", x, 0, 63, 6, 63, 63);
        ends("the last one", x, 63, 400, 0, 64, 1);
        DUE.is("x 0", 63, () -> x.count(17));
        ends("all", x, 0, 64, 0, 64, 64);
    }

    /** "1 NEW r n i", "14 NEWKEEN: as NEW, the object is KEEN": as make() does, with COLLECTIONS where they are due. */
    private static void makesAsTheCallsDo() {
        for (int rounds = 1; rounds <= 5; rounds++) {
            StoreNotes x = new StoreNotes(16, 0, 1, 2);
            StoreNotes y = new StoreNotes(16, 0, 1, 2);
            Heaps.append(x, NEW, 0, 6, 2, NEW, 15, 0, 3, NEWKEEN, 1, 6, 2, NEWKEEN, 1, 0, 4, SET, 2, MIN, 0,
                SET, 3, -9, 0);
            x.run(4, 2);
            for (int round = 0; round < rounds; round++) {
                x.run(0, 4);
                y.make(0, 6, MIN, false);
                y.make(15, 0, -9, false);
                y.make(1, 6, MIN, true);
                y.make(1, 0, 0, true);
            }
            DUE.same(rounds + " rounds", State.ofHeap(x), State.ofHeap(y));
            int least = rounds;
            DUE.is("there were collections", 1, () -> x.count(9) >= least ? 1 : 0);
        }
    }

    /** "2 PUT r f q: field f of r's object becomes what root q has (q NONE: NULL). 3 GET r q f" */
    private static void storesAsTheCallsDo() {
        StoreNotes x = ready(PUT, 0, 0, 15, PUT, 15, 5, 0, PUT, 0, 0, 0, PUT, 0, 0, NONE, PUT, 0, 5, 15, PUT, 0, 1, 9,
            GET, 3, 0, 5, GET, 15, 15, 4, GET, 0, 0, 5);
        StoreNotes y = ready();
        y.put(0, 0, 15);
        y.put(15, 5, 0);
        y.put(0, 0, 0);
        y.put(0, 0, NONE);
        y.put(0, 5, 15);
        y.put(0, 1, 9);
        y.get(3, 0, 5);
        y.get(15, 15, 4);
        y.get(0, 0, 5);
        ends("PUT and GET", x, 1, 9, 0, 10, 9);
        DUE.same("the same by put and get", State.ofHeap(x), State.ofHeap(y));
        DUE.is("OVERFLOW", 1, () -> x.count(12));
    }

    /** "4 MOVE r q: r gets what q has (NONE: NULL). 5 PUSH r, 6 POP r: the STACK's end." */
    private static void leadsAsTheCallsDo() {
        int[][] codes = {{MOVE, 3, 15, 0}, {MOVE, 0, NONE, 0}, {MOVE, 0, 9, 0}, {MOVE, 15, 15, 0}, {PUSH, 0, 0, 0},
            {PUSH, 9, 0, 0}, {POP, 3, 0, 0}, {POP, 0, 0, 0}};
        for (int k = 0; k < codes.length; k++) {
            StoreNotes x = ready(codes[k]);
            StoreNotes y = ready();
            ends(text(codes[k]), x, 1, 1, 0, 2, 1);
            if (k < 4) {
                y.move(codes[k][1], codes[k][2]);
            } else if (k < 6) {
                y.keep(codes[k][1]);
            } else {
                y.back(codes[k][1]);
            }
            DUE.same("the same by a call " + text(codes[k]), State.ofHeap(x), State.ofHeap(y));
        }
    }

    /** "8 ADD i j k: x i becomes x j + x k (wrapping)." */
    private static void additionWraps() {
        int[][] sums = {{MAX, 1, MIN}, {MIN, -1, MAX}, {MIN, MIN, 0}, {MAX, MAX, -2}, {MIN, MAX, -1}, {0, 0, 0}};
        for (int[] known : sums) {
            StoreNotes x = ready(SET, 0, known[0], 0, SET, 7, known[1], 0, ADD, 3, 0, 7, ADD, 0, 0, 7,
                SET, 1, known[0], 0, ADD, 1, 7, 1, SET, 2, known[1], 0, ADD, 2, 2, 2);
            ends("ADD", x, 1, 9, 0, 9, 8);
            DUE.is("x 3", known[2], () -> x.count(20));
            DUE.is("x 0 that is added to itself", known[2], () -> x.count(17));
            DUE.is("x 1", known[2], () -> x.count(18));
            DUE.is("x 2 doubled", known[1] * 2, () -> x.count(19));
            DUE.is("x 7 stays", known[1], () -> x.count(24));
        }
    }

    /** "11 IFLESS i j p (x i below x j)" */
    private static void lessFromTheLeastToTheGreatest() {
        int[] numbers = {MIN, MIN + 1, -1, 0, 1, MAX - 1, MAX};
        for (int k = 0; k < numbers.length; k++) {
            for (int m = 0; m < numbers.length; m++) {
                StoreNotes x = ready(SET, 0, numbers[k], 0, SET, 7, numbers[m], 0, IFLESS, 0, 7, 0);
                ends(numbers[k] + " below " + numbers[m], x, 1, 3, k < m ? 6 : 0, k < m ? 0 : 4, 3);
            }
        }
    }

    /** "10 IFNULL r p", "13 IFSAME r q p (they have the same)": NULL is the same as NULL, a LABEL does not count. */
    private static void sameAndNull() {
        int[][] codes = {{IFSAME, 0, 0, 0}, {IFSAME, 1, 14, 0}, {IFSAME, 0, 2, 0}, {IFSAME, 0, 15, 0},
            {IFSAME, 0, 1, 0}, {IFSAME, 1, 0, 0}, {IFSAME, 0, 3, 0}, {IFNULL, 1, 0, 0}, {IFNULL, 0, 0, 0}};
        int[] taken = {1, 1, 1, 0, 0, 0, 0, 1, 0};
        for (int k = 0; k < codes.length; k++) {
            StoreNotes x = ready(codes[k]);
            x.move(2, 0);
            x.make(3, 6, 70, false);
            ends(text(codes[k]), x, 1, 1, taken[k] == 1 ? 6 : 0, taken[k] == 1 ? 0 : 2, 1);
        }
    }

    /** "9 NAME i r: x i becomes the LABEL of r's object." */
    private static void namesAreLabels() {
        int[] labels = {MIN, -1, 0, MAX};
        for (int label : labels) {
            StoreNotes x = ready(NAME, 7, 4, 0, NEW, 5, 0, 7, NAME, 0, 5, 0);
            x.make(4, 0, label, true);
            ends("NAME", x, 1, 9, 0, 4, 3);
            DUE.is("x 7", label, () -> x.count(24));
            DUE.is("x 0", label, () -> x.count(17));
        }
    }

    /** "NUMBERS x 0 .. 7 (0 at first)": neither a run nor scrap() sets them back. */
    private static void numbersStayBetweenRuns() {
        StoreNotes x = Heaps.bare(NEW, 0, 0, 7, SET, 0, 5, 0, SET, 7, MIN, 0);
        x.run(0, 1);
        DUE.is("the LABEL of x 7 at first", 0, () -> x.about(0, 3));
        x.run(1, 2);
        x.scrap();
        DUE.is("x 0", 5, () -> x.count(17));
        Heaps.append(x, ADD, 1, 0, 7);
        x.run(0, 1);
        DUE.is("x 1", MIN + 5, () -> x.count(18));
        DUE.is("x 7", MIN, () -> x.count(24));
        DUE.is("steps ever", 4, () -> x.count(15));
    }

    private static void placeStaysBehindScrap() {
        StoreNotes x = Heaps.bare(SET, 0, 1, 0, SET, 0, 2, 0);
        x.run(0, 2);
        x.scrap();
        DUE.is("PLACE", 2, () -> x.count(16));
        DUE.bounds("there is no such place now", x, () -> x.run(2, 0));
        ends("from 0 on", x, 0, 400, 0, 0, 0);
    }
}
