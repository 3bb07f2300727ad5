/** The sentences of "Terms" up to FILTERED that name an edge: each one stands above its test. */
public final class TermsTest {
    private static final Due DUE = new Due();
    private static final int MAX = Heaps.MAX;
    private static final int MIN = Heaps.MIN;
    private static final int NONE = Heaps.NONE;

    public static void main(String[] args) {
        wordsAreInts();
        zeroIsNull();
        generationsAreOfTheirSizes(16);
        generationsAreOfTheirSizes(17);
        generationsAreOfTheirSizes(127);
        generationsAreOfTheirSizes(128);
        firstHalvesAreInUseAtFirst();
        halvesChangePlacesEvenIfEmpty();
        usedBeginsAtTheBeginning();
        objectsOfNoFieldsToSix();
        headsFromTheLeastToTheGreatest();
        fieldsAreNullOrAddresses();
        newObjectsComeToTheEnd();
        rootsAreNullAtFirst();
        stackHoldsForty();
        weakPlacesAreNullAtFirst();
        wishesAsManyAsObjects();
        queueAsLongAsObjects();
        bufferIsARing();
        sameStoreIsNotedAgain();
        nullIsNotNoted();
        nullDoesNotOverflow();
        pushAndTheMachineNote();
        pushAndTheMachineOverflow();
        filteredFromTheOldestNoteOn();
        filteredIfTheFieldIsOlder();
        filteredByWhatTheFieldHasNow();
        filteredToTheEndOfTheRow();
        filteredOnceInARow();
        filteredIntoTheOtherRowToo();
        filteredThenTheBufferIsEmpty();
        rememberedRowsAtTheirLongest();
        DUE.end();
    }

    private static void row(String told, StoreNotes x, int row, String want) {
        DUE.same(told, State.row(x, row), want);
    }

    /** "WORDS are ints at ADDRESSES from 1 on" */
    private static void wordsAreInts() {
        int[] labels = {MIN, -1, 0, 1, MAX};
        StoreNotes x = new StoreNotes(16, 0, 0, 2);
        for (int k = 0; k < labels.length; k++) {
            int at = 1 + 2 * k;
            int label = labels[k];
            DUE.is("address", at, () -> x.make(at, 0, label, false));
            DUE.is("the word of a LABEL", label, () -> x.word(at + 1));
            DUE.is("the LABEL", label, () -> x.about(at, 3));
        }
        x.collect(0);
        for (int k = 0; k < labels.length; k++) {
            int at = 1 + 2 * k;
            DUE.is("the LABEL of a copy", labels[k], () -> x.about(at, 3));
        }
    }

    /** "0 is NULL" */
    private static void zeroIsNull() {
        StoreNotes x = new StoreNotes(16, 0, 0, 2);
        DUE.is("the first address is 1", 1, () -> x.make(0, 1, 7, false));
        DUE.noSuch("word(0)", () -> x.word(0));
        DUE.is("a field", 0, () -> x.get(1, 0, 0));
        DUE.is("NULL into a root", 0, () -> x.move(0, 1));
        DUE.is("NULL onto the STACK", 1, () -> x.keep(0));
        x.collect(2);
        DUE.is("NULL is not copied", 0, () -> x.count(13));
        DUE.is("NULL is BROUGHT as NULL", 0, () -> x.row(3, 0));
    }

    /** Makes what takes so many words, all in a chain that root 0 begins. */
    private static void chain(StoreNotes x, int words) {
        x.push(0, 0, (words - 4) / 4);
        int rest = words - (words - 4) / 4 * 4;
        x.make(1, rest - 2, 77, false);
        x.put(1, 0, 0);
        x.move(0, 1);
        Heaps.drop(x, 1);
    }

    private static void sizesAreUsed(StoreNotes x, int size) {
        DUE.is("generation 0 is full", size, () -> x.count(0));
        DUE.is("generation 1 is full", 2 * size, () -> x.count(1));
        DUE.is("generation 2 is full", 4 * size, () -> x.count(2));
    }

    private static void halfIsTaken(StoreNotes x, int first, int last, int before, int behind) {
        int[] taken = {first, last};
        for (int address : taken) {
            DUE.is("word(" + address + ") is taken", 1, () -> isTaken(x, address));
        }
        int[] free = {before, behind};
        for (int address : free) {
            DUE.noSuch("word(" + address + ")", () -> x.word(address));
        }
    }

    /** Whatever stands there, if the call throws nothing. */
    private static int isTaken(StoreNotes x, int address) {
        x.word(address);
        return 1;
    }

    /**
     * "GENERATIONS are 0, 1, 2, of SIZE s, 2 s, 4 s words; each has two HALVES of that size. Halves lie one behind the
     * other from address 1 on: both of generation 0, both of 1, both of 2."
     */
    private static void generationsAreOfTheirSizes(int s) {
        StoreNotes x = new StoreNotes(s, 0, 0, 64);
        for (int round = 0; round < 6; round++) {
            chain(x, s);
            x.collect(0);
            if (round == 1 || round == 3) {
                x.collect(1);
            }
        }
        chain(x, s);
        sizesAreUsed(x, s);
        halfIsTaken(x, 1, s, 0, s + 1);
        halfIsTaken(x, 2 * s + 1, 4 * s, 2 * s, 4 * s + 1);
        halfIsTaken(x, 6 * s + 1, 10 * s, 6 * s, 10 * s + 1);
        DUE.is("FULL", 0, () -> x.make(1, 0, 0, false));
        sizesAreUsed(x, s);
        DUE.is("all words were copied", s + 3 * s + 7 * s, () -> x.count(13) - 6 * s - 4 * s);
        halfIsTaken(x, s + 1, 2 * s, s, 4 * s + 1);
        halfIsTaken(x, 2 * s + 1, 4 * s, 6 * s, 10 * s);
        halfIsTaken(x, 10 * s + 1, 14 * s, 6 * s + 1, 14 * s + 1);
    }

    /** "One half of each is IN USE, at first the first one" */
    private static void firstHalvesAreInUseAtFirst() {
        StoreNotes x = new StoreNotes(16, 0, 0, 2);
        DUE.is("generation 0", 1, () -> x.make(0, 0, 0, false));
        x.collect(0);
        DUE.is("generation 1", 33, () -> x.root(0));
        x.collect(1);
        DUE.is("generation 2", 97, () -> x.root(0));
    }

    /** "2 For each generation up to g the half that was IN USE is FROM, the other one IN USE and empty." */
    private static void halvesChangePlacesEvenIfEmpty() {
        int[][] due = {{17, 33, 97}, {17, 65, 97}, {17, 65, 161}};
        for (int g = 0; g <= 2; g++) {
            StoreNotes x = new StoreNotes(16, 0, 0, 2);
            int most = g;
            DUE.is("nothing is copied", 0, () -> x.collect(most));
            String told = "behind an empty collect(" + g + ")";
            DUE.is("generation 0 " + told, due[g][0], () -> x.make(0, 0, 0, false));
            x.collect(0);
            DUE.is("generation 1 " + told, due[g][1], () -> x.root(0));
            x.collect(1);
            DUE.is("generation 2 " + told, due[g][2], () -> x.root(0));
            StoreNotes y = new StoreNotes(16, 0, 0, 2);
            y.collect(g);
            y.collect(g);
            DUE.is("twice, and it is the first half again", 1, () -> y.make(0, 0, 0, false));
        }
    }

    /** "USED is how many words of it are taken, from its beginning on." */
    private static void usedBeginsAtTheBeginning() {
        StoreNotes x = new StoreNotes(32, 0, 0, 2);
        x.make(0, 3, 1, false);
        x.make(1, 1, 2, false);
        DUE.is("USED", 8, () -> x.count(0));
        DUE.is("the last word", 0, () -> x.word(8));
        DUE.noSuch("the word behind it", () -> x.word(9));
        Heaps.drop(x, 0);
        x.collect(0);
        DUE.is("USED of 0", 0, () -> x.count(0));
        DUE.is("USED of 1", 3, () -> x.count(1));
        DUE.is("the last word of 1", 0, () -> x.word(67));
        DUE.noSuch("the word behind it", () -> x.word(68));
        DUE.noSuch("the half that is not IN USE now", () -> x.word(1));
        DUE.noSuch("the half that is IN USE and empty", () -> x.word(33));
        Heaps.drop(x, 1);
        DUE.is("what nothing leads to is taken still", 2, () -> x.word(66));
        DUE.is("USED of 1", 3, () -> x.count(1));
    }

    /** "An OBJECT of n FIELDS (0 .. 6) takes n + 2 words: HEAD, LABEL, its fields; its address is that of its HEAD." */
    private static void objectsOfNoFieldsToSix() {
        StoreNotes x = new StoreNotes(64, 0, 0, 2);
        int[] addresses = {1, 3, 6, 10, 15, 21, 28};
        for (int n = 0; n <= 6; n++) {
            int fields = n;
            int at = addresses[n];
            DUE.is("an object of " + n + " fields", at, () -> x.make(fields, fields, -7 - fields, false));
            DUE.is("HEAD", n, () -> x.word(at));
            DUE.is("LABEL", -7 - n, () -> x.word(at + 1));
            DUE.is("USED", at + n + 1, () -> x.count(0));
            for (int field = 0; field < n; field++) {
                x.put(n, field, field);
                int asked = field;
                DUE.is("field " + field, addresses[field], () -> x.word(at + 2 + asked));
            }
        }
        DUE.is("all are copied", 35, () -> x.collect(0));
        DUE.is("as they are", addresses[5] + 128, () -> x.about(6, 10));
    }

    /** "HEAD is n + 8 AGE (0 .. 7) + 64 if it is KEEN." */
    private static void headsFromTheLeastToTheGreatest() {
        StoreNotes x = new StoreNotes(16, 0, 0, 2);
        x.make(0, 6, 0, true);
        x.make(1, 0, 0, false);
        DUE.is("6 fields, KEEN", 70, () -> x.word(1));
        DUE.is("the least HEAD", 0, () -> x.word(9));
        x.collect(0);
        x.collect(1);
        for (int age = 1; age <= 9; age++) {
            x.collect(2);
            int told = age < 7 ? age : 7;
            DUE.is("HEAD of AGE " + told, 70 + 8 * told, () -> x.word(x.root(0)));
            DUE.is("HEAD of no fields", 8 * told, () -> x.word(x.root(1)));
        }
        DUE.is("the greatest HEAD", 126, () -> x.word(x.root(0)));
    }

    /** "A field is NULL or the address of an object." */
    private static void fieldsAreNullOrAddresses() {
        StoreNotes x = new StoreNotes(16, 6, 6, 2);
        x.make(0, 3, 0, false);
        x.make(1, 0, 0, false);
        x.put(0, 0, 0);
        x.put(0, 2, 1);
        for (int k = 0; k < 2; k++) {
            int first = 1 + 16 * k;
            DUE.is("itself", first, () -> x.about(0, 5));
            DUE.is("NULL", 0, () -> x.about(0, 6));
            DUE.is("another one", first + 5, () -> x.about(0, 7));
            x.collect(0);
        }
    }

    /** "A new object comes to the end of the half IN USE of generation 0, with AGE 0 and fields NULL." */
    private static void newObjectsComeToTheEnd() {
        StoreNotes x = new StoreNotes(32, 6, 6, 64);
        for (int root = 0; root < 4; root++) {
            x.make(root, 6, 0, false);
            for (int field = 0; field < 6; field++) {
                x.put(root, field, root);
            }
        }
        Heaps.drop(x, 1, 2, 3);
        x.collect(0);
        Heaps.drop(x, 0);
        x.collect(0);
        for (int root = 0; root < 4; root++) {
            int asked = root;
            DUE.is("where another one lay", 1 + 8 * root, () -> x.make(asked, 6, 5, false));
            DUE.is("AGE", 0, () -> x.about(asked, 1));
            for (int what = 5; what <= 10; what++) {
                int field = what;
                DUE.is("field", 0, () -> x.about(asked, field));
            }
        }
        Heaps.drop(x, 0, 1);
        x.collect(0);
        DUE.is("behind what came", 49, () -> x.make(0, 6, 5, false));
    }

    /** "ROOTS 0 .. 15 .. are NULL or addresses (at first NULL, none)" */
    private static void rootsAreNullAtFirst() {
        StoreNotes x = new StoreNotes(16, 0, 0, 2);
        for (int root = 0; root <= 15; root++) {
            int asked = root;
            DUE.is("root(" + root + ")", 0, () -> x.root(asked));
        }
        x.make(0, 0, 0, false);
        x.make(15, 0, 0, false);
        DUE.is("the first root", 1, () -> x.root(0));
        DUE.is("the last root", 3, () -> x.root(15));
        DUE.is("both are kept", 4, () -> x.collect(0));
    }

    /** "places of the STACK (at most 40)" */
    private static void stackHoldsForty() {
        StoreNotes x = new StoreNotes(128, 6, 6, 2);
        DUE.is("none at first", 0, () -> x.count(6));
        for (int k = 0; k < 40; k++) {
            int places = k + 1;
            x.make(0, 0, k, false);
            DUE.is("place " + k, places, () -> x.keep(0));
        }
        Heaps.drop(x, 0);
        DUE.is("all 40 are kept", 80, () -> x.collect(0));
        for (int k = 0; k < 40; k++) {
            int asked = k;
            DUE.is("from the lowest place on", 129 + 2 * k, () -> x.row(3, asked));
        }
        for (int k = 39; k >= 0; k--) {
            int due = 129 + 2 * k;
            DUE.is("back", due, () -> x.back(0));
        }
        DUE.is("none is left", 0, () -> x.count(6));
        DUE.is("but the root", 2, () -> x.collect(0));
    }

    /** "WEAK places 0 .. 7 likewise" */
    private static void weakPlacesAreNullAtFirst() {
        StoreNotes x = new StoreNotes(16, 6, 6, 2);
        row("WEAK places at first", x, 6, " 0 0 0 0 0 0 0 0");
        x.make(0, 0, 0, false);
        x.weak(0, 0);
        x.weak(7, 0);
        row("the first and the last", x, 6, " 1 0 0 0 0 0 0 1");
        x.collect(0);
        row("both follow", x, 6, " 17 0 0 0 0 0 0 17");
        Heaps.drop(x, 0);
        x.collect(0);
        row("both are NULL", x, 6, " 0 0 0 0 0 0 0 0");
    }

    /** SIZE 16, all 112 words taken by 56 KEEN objects of no fields, LABELS 0 to 55: as many as there can be. */
    private static StoreNotes allKeen() {
        StoreNotes x = new StoreNotes(16, 0, 0, 2);
        for (int k = 0; k < 56; k++) {
            x.make(k < 40 ? 0 : k - 40, 0, k, true);
            if (k < 40) {
                x.keep(0);
            }
            if (k % 8 == 7 && k < 48) {
                x.collect(0);
            }
            if (k == 15 || k == 31) {
                x.collect(1);
            }
        }
        return x;
    }

    /** "WISHES is the row of addresses of KEEN objects, in the order in which they were made" */
    private static void wishesAsManyAsObjects() {
        DUE.is("none at first", 0, () -> new StoreNotes(16, 0, 0, 2).count(7));
        StoreNotes x = allKeen();
        DUE.is("FULL", 0, () -> x.make(0, 0, 99, true));
        DUE.is("WISHES", 56, () -> x.count(7));
        DUE.is("the QUEUE", 0, () -> x.count(8));
        for (int k = 0; k < 56; k++) {
            int label = k;
            DUE.is("LABEL of wish " + k, label, () -> x.word(x.row(4, label) + 1));
        }
    }

    /** "the QUEUE is a row of addresses (at first empty)" */
    private static void queueAsLongAsObjects() {
        DUE.is("empty at first", 0, () -> new StoreNotes(16, 0, 0, 2).count(8));
        StoreNotes x = allKeen();
        for (int k = 0; k < 40; k++) {
            x.back(0);
        }
        for (int root = 0; root < 16; root++) {
            Heaps.drop(x, root);
        }
        DUE.is("all are copied", 112, () -> x.collect(2));
        DUE.is("no WISHES", 0, () -> x.count(7));
        DUE.is("the QUEUE", 56, () -> x.count(8));
        DUE.is("all are kept", 112, () -> x.collect(2));
        for (int k = 0; k < 56; k++) {
            int left = 55 - k;
            x.wish(3);
            DUE.is("LABEL of number " + k, k, () -> x.about(3, 3));
            DUE.is("so many are left", left, () -> x.count(8));
        }
        DUE.is("none is left", 0, () -> x.wish(3));
    }

    /** "THE BUFFER is a ring of b places. .. the field's address is noted in it, behind the others" */
    private static void bufferIsARing() {
        int[] places = {2, 3, 63, 64};
        for (int b : places) {
            StoreNotes x = new StoreNotes(16, 0, 0, b);
            x.make(0, 6, 0, false);
            int noted = 0;
            for (int round = 0; round < 3; round++) {
                StringBuilder due = new StringBuilder();
                for (int k = 0; k < b; k++) {
                    x.put(0, noted % 6, 0);
                    due.append(' ').append(3 + noted % 6);
                    noted++;
                }
                row("round " + round + " of " + b, x, 2, due.toString());
                int overflows = round;
                DUE.is("OVERFLOWS in round " + round + " of " + b, overflows, () -> x.count(12));
            }
        }
    }

    /** "When a field becomes an address (not NULL) by a PUT, the field's address is noted": also if it had that. */
    private static void sameStoreIsNotedAgain() {
        StoreNotes x = new StoreNotes(16, 0, 0, 4);
        x.make(0, 2, 0, false);
        for (int k = 0; k < 3; k++) {
            x.put(0, 1, 0);
        }
        row("three times", x, 2, " 4 4 4");
    }

    private static void nullIsNotNoted() {
        StoreNotes x = new StoreNotes(16, 0, 0, 4);
        x.make(0, 2, 0, false);
        x.put(0, 0, 0);
        DUE.is("NONE", 1, () -> x.put(0, 0, NONE));
        DUE.is("NONE again", 0, () -> x.put(0, 0, NONE));
        DUE.is("a root that has NULL", 0, () -> x.put(0, 0, 15));
        row("one note", x, 2, " 3");
        x.get(1, 0, 0);
        x.move(2, 0);
        x.keep(0);
        x.weak(0, 0);
        x.make(3, 6, 0, true);
        row("only a PUT notes", x, 2, " 3");
    }

    /** "if all places are taken, it is FILTERED first (this counts as OVERFLOW)": only if there is one to note. */
    private static void nullDoesNotOverflow() {
        StoreNotes x = Heaps.threeGenerations(2);
        x.put(1, 0, 0);
        x.put(1, 1, 0);
        x.put(1, 2, NONE);
        x.put(1, 2, 15);
        row("as many notes as places", x, 2, " 131 132");
        DUE.is("no OVERFLOW", 0, () -> x.count(12));
        DUE.is("not FILTERED", 0, () -> x.count(3));
        x.put(1, 2, 0);
        row("the next one is alone", x, 2, " 133");
        DUE.is("OVERFLOW", 1, () -> x.count(12));
        row("FILTERED", x, 0, " 131 132");
    }

    private static void pushAndTheMachineNote() {
        StoreNotes x = new StoreNotes(32, 0, 0, 8);
        x.push(0, 0, 1);
        row("push onto NULL", x, 2, "");
        x.push(0, 0, 2);
        row("push onto an object", x, 2, " 7 11");
        Heaps.append(x, 2, 0, 1, 0, 2, 0, 1, -1, 2, 0, 1, 9);
        x.run(0, 3);
        row("PUT of the MACHINE", x, 2, " 7 11 12");
    }

    private static void pushAndTheMachineOverflow() {
        StoreNotes x = new StoreNotes(32, 0, 0, 2);
        x.push(0, 0, 3);
        DUE.is("as many as places", 0, () -> x.count(12));
        x.push(0, 0, 1);
        DUE.is("OVERFLOW by push", 1, () -> x.count(12));
        row("its note", x, 2, " 15");
        Heaps.append(x, 2, 0, 1, 0, 2, 0, 1, -1, 2, 0, 0, 0);
        x.run(0, 2);
        DUE.is("as many as places", 1, () -> x.count(12));
        x.run(2, 1);
        DUE.is("OVERFLOW by the MACHINE", 2, () -> x.count(12));
        row("its note", x, 2, " 15");
    }

    /** "FILTERED: from the oldest note on" */
    private static void filteredFromTheOldestNoteOn() {
        StoreNotes x = Heaps.threeGenerations(4);
        x.put(2, 5, 0);
        x.put(1, 0, 0);
        x.put(2, 0, 0);
        x.put(1, 5, 0);
        x.put(0, 0, 0);
        row("in the order of the notes", x, 0, " 200 131 195 136");
        row("the last note", x, 2, " 35");
    }

    /**
     * "if the field lies in an older generation (a greater number) than the object that it has now .., its address
     * comes to the end of that object's generation's REMEMBERED row (there are those of 0 and 1)"
     */
    private static void filteredIfTheFieldIsOlder() {
        String[][] due = {{"", "", ""}, {" 131", "", ""}, {" 195", " 195", ""}};
        for (int g = 0; g <= 2; g++) {
            for (int h = 0; h <= 2; h++) {
                StoreNotes x = Heaps.threeGenerations(2);
                x.put(g, 0, h);
                x.put(0, 0, 0);
                x.put(0, 0, 0);
                String told = " by a field of " + g + " that has an object of " + h;
                row("REMEMBERED 0" + told, x, 0, h == 0 ? due[g][h] : "");
                row("REMEMBERED 1" + told, x, 1, h == 1 ? due[g][h] : "");
                DUE.is("OVERFLOW" + told, 1, () -> x.count(12));
            }
        }
    }

    /** "than the object that it has now (NULL: none)" */
    private static void filteredByWhatTheFieldHasNow() {
        StoreNotes x = Heaps.threeGenerations(4);
        x.put(2, 0, 0);
        x.put(2, 0, NONE);
        x.put(2, 1, 0);
        x.put(2, 1, 1);
        x.put(2, 2, 1);
        x.put(2, 2, NONE);
        x.put(0, 0, 0);
        row("NULL now, and one of 1 now", x, 0, "");
        row("one of 1 now, and NULL now", x, 1, " 196");
        StoreNotes y = Heaps.threeGenerations(2);
        y.put(2, 0, 2);
        y.put(2, 0, 0);
        y.put(0, 0, 0);
        row("older first, younger now", y, 0, " 195");
    }

    private static void filteredToTheEndOfTheRow() {
        StoreNotes x = Heaps.threeGenerations(2);
        x.put(2, 1, 0);
        x.put(2, 4, 1);
        x.put(2, 0, 0);
        x.put(2, 3, 1);
        x.put(0, 0, 0);
        row("REMEMBERED 0", x, 0, " 196 195");
        row("REMEMBERED 1", x, 1, " 199 198");
    }

    /** "if it is not in that row" */
    private static void filteredOnceInARow() {
        StoreNotes x = Heaps.threeGenerations(3);
        x.put(2, 1, 0);
        x.put(2, 0, 0);
        x.put(2, 1, 0);
        x.put(2, 0, 0);
        row("twice among the notes", x, 0, " 196 195");
        x.put(2, 2, 0);
        x.put(2, 1, 0);
        x.put(0, 0, 0);
        row("in the row before", x, 0, " 196 195 197");
        DUE.is("OVERFLOWS", 2, () -> x.count(12));
    }

    private static void filteredIntoTheOtherRowToo() {
        StoreNotes x = Heaps.threeGenerations(2);
        x.put(2, 1, 0);
        x.put(0, 0, 0);
        x.put(0, 0, 0);
        x.put(2, 1, 1);
        x.put(0, 0, 0);
        row("REMEMBERED 0 keeps it", x, 0, " 196");
        row("REMEMBERED 1 has it too", x, 1, " 196");
    }

    /** "Then the BUFFER is empty." */
    private static void filteredThenTheBufferIsEmpty() {
        StoreNotes x = Heaps.threeGenerations(2);
        x.put(2, 1, 0);
        x.put(2, 2, 0);
        x.put(2, 3, 0);
        row("one note behind an OVERFLOW", x, 2, " 198");
        x.collect(0);
        row("none behind a COLLECTION", x, 2, "");
        DUE.noSuch("row(2, 0)", () -> x.row(2, 0));
    }

    /** SIZE 16, four objects of six fields in generation 1 and eight in generation 2: all fields that can be older. */
    private static void rememberedRowsAtTheirLongest() {
        StoreNotes x = new StoreNotes(16, 0, 0, 2);
        for (int k = 0; k < 12; k++) {
            x.make(k, 6, k, false);
            x.collect(0);
            if (k == 3 || k == 7) {
                x.collect(1);
            }
        }
        x.make(12, 0, 12, false);
        for (int k = 0; k < 72; k++) {
            x.put(k / 6, k % 6, 12);
        }
        DUE.is("OVERFLOWS", 35, () -> x.count(12));
        DUE.is("REMEMBERED 0 without the last notes", 70, () -> x.count(3));
        for (int k = 0; k < 48; k++) {
            x.put(k / 6, k % 6, 11);
        }
        DUE.is("REMEMBERED 0 with all fields", 72, () -> x.count(3));
        DUE.is("the first field", 97 + 2, () -> x.row(0, 0));
        DUE.is("the last field", x.root(11) + 7, () -> x.row(0, 71));
        DUE.is("REMEMBERED 1 without the last notes", 46, () -> x.count(4));
        x.collect(0);
        DUE.is("REMEMBERED 0", 24, () -> x.count(3));
        DUE.is("REMEMBERED 1", 48, () -> x.count(4));
        DUE.is("the last field of generation 2", 160, () -> x.row(1, 47));
        DUE.is("there is no room in generation 1", 0, () -> x.about(12, 4));
    }
}
