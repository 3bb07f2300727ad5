import java.util.ArrayList;
import java.util.List;

/**
 * The document told a second time, with objects that know one another instead of words: what it answers is held
 * against the class by ModelTest. It throws the same exceptions, and its text is that of State.
 */
final class Model {
    /** An object; fields are objects, its address is where it lies now. */
    private static final class Thing {
        int address;
        int generation;
        int age;
        boolean keen;
        int label;
        Thing[] fields;
        int came;

        int size() {
            return fields.length + 2;
        }
    }

    /** A field that was noted under an address. */
    private static final class Note {
        final Thing owner;
        final int field;
        final int address;

        Note(Thing owner, int field) {
            this.owner = owner;
            this.field = field;
            this.address = owner.address + 2 + field;
        }

        Thing has() {
            return owner.fields[field];
        }
    }

    private static final class Instruction {
        int what;
        int a;
        int b;
        int c;
    }

    private final int size;
    private final int[] limits;
    private final int bufferPlaces;
    private final int[] base = new int[3];
    private final boolean[] second = new boolean[3];
    private final List<List<Thing>> inUse = new ArrayList<>();
    private final List<List<Thing>> from = new ArrayList<>();
    private List<List<Note>> remembered = new ArrayList<>();
    private final List<Note> buffer = new ArrayList<>();
    private final Thing[] roots = new Thing[16];
    private final Thing[] weak = new Thing[8];
    private final List<Thing> stack = new ArrayList<>();
    private List<Thing> wishes = new ArrayList<>();
    private final List<Thing> queue = new ArrayList<>();
    private final int[] collections = new int[3];
    private final List<Instruction> code = new ArrayList<>();
    private final int[] numbers = new int[8];
    private int overflows;
    private int copied;
    private int promoted;
    private int steps;
    private int place;
    private int epoch;
    private int collected;

    Model(int size, int limit0, int limit1, int buffer) {
        this.size = size < 16 ? 16 : size > 128 ? 128 : size;
        limits = new int[] {limit0 < 0 ? 0 : limit0 > 6 ? 6 : limit0, limit1 < 0 ? 0 : limit1 > 6 ? 6 : limit1};
        bufferPlaces = buffer < 2 ? 2 : buffer > 64 ? 64 : buffer;
        base[0] = 1;
        base[1] = 1 + 2 * this.size;
        base[2] = 1 + 6 * this.size;
        for (int g = 0; g < 3; g++) {
            inUse.add(new ArrayList<>());
            from.add(new ArrayList<>());
        }
        remembered.add(new ArrayList<>());
        remembered.add(new ArrayList<>());
    }

    private int sizeOf(int g) {
        return size << g;
    }

    private static int words(List<Thing> things) {
        int sum = 0;
        for (Thing thing : things) {
            sum += thing.size();
        }
        return sum;
    }

    private int left(int g) {
        int sum = 0;
        for (Thing thing : from.get(g)) {
            if (thing.came != epoch) {
                sum += thing.size();
            }
        }
        return sum;
    }

    private int generationAt(int address) {
        return address < base[1] ? 0 : address < base[2] ? 1 : 2;
    }

    private void lay(Thing thing, int g) {
        List<Thing> half = inUse.get(g);
        thing.address = base[g] + (second[g] ? sizeOf(g) : 0) + words(half);
        thing.generation = g;
        half.add(thing);
    }

    private static int address(Thing thing) {
        return thing == null ? 0 : thing.address;
    }

    private void filter() {
        for (Note note : buffer) {
            remember(note);
        }
        buffer.clear();
    }

    private void remember(Note note) {
        Thing has = note.has();
        if (has == null || has.generation >= generationAt(note.address)) {
            return;
        }
        for (Note known : remembered.get(has.generation)) {
            if (known.address == note.address) {
                return;
            }
        }
        remembered.get(has.generation).add(note);
    }

    private boolean isInFrom(Thing thing) {
        return thing != null && thing.came != epoch && from.get(thing.generation).contains(thing);
    }

    private void bring(Thing thing) {
        if (!isInFrom(thing)) {
            return;
        }
        int g = thing.generation;
        int age = Math.min(7, thing.age + 1);
        boolean rises = g < 2 && age > limits[g] && words(inUse.get(g + 1)) + thing.size() <= sizeOf(g + 1)
            && (g + 1 > collected || words(inUse.get(g + 1)) + thing.size() + left(g + 1) <= sizeOf(g + 1));
        thing.came = epoch;
        thing.age = rises ? 0 : age;
        promoted += rises ? 1 : 0;
        copied += thing.size();
        lay(thing, rises ? g + 1 : g);
    }

    private void scan(int[] scanned) {
        boolean found = true;
        while (found) {
            found = false;
            for (int g = 0; g < 3 && !found; g++) {
                if (scanned[g] < inUse.get(g).size()) {
                    found = true;
                    Thing thing = inUse.get(g).get(scanned[g]);
                    scanned[g]++;
                    for (Thing has : thing.fields) {
                        bring(has);
                    }
                    for (int field = 0; field < thing.fields.length; field++) {
                        remember(new Note(thing, field));
                    }
                }
            }
        }
    }

    private int gather(int most) {
        int before = copied;
        filter();
        epoch++;
        collected = most;
        int[] scanned = new int[3];
        for (int g = 0; g < 3; g++) {
            from.set(g, new ArrayList<>());
            if (g <= most) {
                from.set(g, inUse.get(g));
                inUse.set(g, new ArrayList<>());
                second[g] = !second[g];
            }
            scanned[g] = inUse.get(g).size();
        }
        List<List<Note>> aside = remembered;
        remembered = new ArrayList<>();
        remembered.add(new ArrayList<>());
        remembered.add(new ArrayList<>());
        for (Thing root : roots) {
            bring(root);
        }
        for (Thing kept : stack) {
            bring(kept);
        }
        for (Thing waiting : queue) {
            bring(waiting);
        }
        for (List<Note> row : aside) {
            for (Note note : row) {
                if (generationAt(note.address) > most) {
                    bring(note.has());
                    remember(note);
                }
            }
        }
        scan(scanned);
        List<Thing> staying = new ArrayList<>();
        for (Thing wish : wishes) {
            if (isInFrom(wish)) {
                bring(wish);
                wish.keen = false;
                queue.add(wish);
            } else {
                staying.add(wish);
            }
        }
        wishes = staying;
        scan(scanned);
        for (int k = 0; k < weak.length; k++) {
            if (isInFrom(weak[k])) {
                weak[k] = null;
            }
        }
        for (int g = 0; g < 3; g++) {
            from.set(g, new ArrayList<>());
        }
        collections[most]++;
        return copied - before;
    }

    private Thing fresh(int fields, int label, boolean keen) {
        for (int most = 0; most < 3; most++) {
            if (words(inUse.get(0)) + fields + 2 > size) {
                gather(most);
            }
        }
        if (words(inUse.get(0)) + fields + 2 > size) {
            return null;
        }
        Thing thing = new Thing();
        thing.fields = new Thing[fields];
        thing.label = label;
        thing.keen = keen;
        lay(thing, 0);
        if (keen) {
            wishes.add(thing);
        }
        return thing;
    }

    private void store(Thing thing, int field, Thing value) {
        thing.fields[field] = value;
        if (value != null) {
            if (buffer.size() == bufferPlaces) {
                overflows++;
                filter();
            }
            buffer.add(new Note(thing, field));
        }
    }

    private static void bounds(boolean right) {
        if (!right) {
            throw new IndexOutOfBoundsException();
        }
    }

    private static void argument(boolean right) {
        if (!right) {
            throw new IllegalArgumentException();
        }
    }

    private static void state(boolean right) {
        if (!right) {
            throw new IllegalStateException();
        }
    }

    private static boolean within(int number, int least, int most) {
        return least <= number && number <= most;
    }

    int make(int root, int fields, int label, boolean keen) {
        bounds(within(root, 0, 15));
        argument(within(fields, 0, 6));
        Thing made = fresh(fields, label, keen);
        if (made != null) {
            roots[root] = made;
        }
        return address(made);
    }

    int push(int root, int label, int times) {
        bounds(within(root, 0, 15));
        argument(within(times, 1, 40));
        int done = 0;
        while (done < times) {
            Thing made = fresh(2, label + done, false);
            if (made == null) {
                break;
            }
            store(made, 0, roots[root]);
            roots[root] = made;
            done++;
        }
        return done;
    }

    int put(int root, int field, int other) {
        bounds(within(root, 0, 15) && within(other, -1, 15));
        state(roots[root] != null);
        bounds(within(field, 0, roots[root].fields.length - 1));
        int had = address(roots[root].fields[field]);
        store(roots[root], field, other == -1 ? null : roots[other]);
        return had;
    }

    int get(int root, int other, int field) {
        bounds(within(root, 0, 15) && within(other, 0, 15));
        state(roots[other] != null);
        bounds(within(field, 0, roots[other].fields.length - 1));
        roots[root] = roots[other].fields[field];
        return address(roots[root]);
    }

    int move(int root, int other) {
        bounds(within(root, 0, 15) && within(other, -1, 15));
        roots[root] = other == -1 ? null : roots[other];
        return address(roots[root]);
    }

    int keep(int root) {
        bounds(within(root, 0, 15));
        state(stack.size() < 40);
        stack.add(roots[root]);
        return stack.size();
    }

    int back(int root) {
        bounds(within(root, 0, 15));
        state(!stack.isEmpty());
        roots[root] = stack.remove(stack.size() - 1);
        return address(roots[root]);
    }

    int weak(int place, int root) {
        bounds(within(place, 0, 7) && within(root, 0, 15));
        int had = address(weak[place]);
        weak[place] = roots[root];
        return had;
    }

    int strong(int root, int place) {
        bounds(within(place, 0, 7) && within(root, 0, 15));
        roots[root] = weak[place];
        return address(roots[root]);
    }

    int wish(int root) {
        bounds(within(root, 0, 15));
        if (queue.isEmpty()) {
            return 0;
        }
        roots[root] = queue.remove(0);
        return address(roots[root]);
    }

    int collect(int generation) {
        argument(within(generation, 0, 2));
        return gather(generation);
    }

    int about(int root, int what) {
        bounds(within(root, 0, 15));
        Thing thing = roots[root];
        state(thing != null);
        bounds(within(what, 0, 4 + thing.fields.length));
        int[] known = {thing.fields.length, thing.age, thing.keen ? 1 : 0, thing.label, thing.generation};
        return what < 5 ? known[what] : address(thing.fields[what - 5]);
    }

    int code(int what, int a, int b, int c) {
        state(code.size() < 64);
        Instruction told = new Instruction();
        told.what = what;
        told.a = a;
        told.b = b;
        told.c = c;
        code.add(told);
        return code.size();
    }

    int scrap() {
        int had = code.size();
        code.clear();
        return had;
    }

    int run(int from, int most) {
        bounds(within(from, 0, code.size()));
        argument(within(most, 0, 400));
        place = from;
        int done = 0;
        while (true) {
            if (place == code.size()) {
                return 0;
            }
            if (done == most) {
                return 6;
            }
            int end = end(code.get(place));
            if (end != 0) {
                return end;
            }
            Instruction told = code.get(place);
            if (told.what == 0) {
                steps++;
                return 0;
            }
            if (!perform(told)) {
                return 5;
            }
            done++;
            steps++;
        }
    }

    private boolean root(int number) {
        return within(number, 0, 15);
    }

    private boolean number(int number) {
        return within(number, 0, 7);
    }

    private boolean place(int number) {
        return within(number, 0, code.size());
    }

    private boolean isRight(Instruction i) {
        switch (i.what) {
            case 0: return true;
            case 1: case 14: return root(i.a) && within(i.b, 0, 6) && number(i.c);
            case 2: return root(i.a) && within(i.b, 0, 5) && (root(i.c) || i.c == -1);
            case 3: return root(i.a) && root(i.b) && within(i.c, 0, 5);
            case 4: return root(i.a) && (root(i.b) || i.b == -1);
            case 5: case 6: return root(i.a);
            case 7: return number(i.a);
            case 8: return number(i.a) && number(i.b) && number(i.c);
            case 9: return number(i.a) && root(i.b);
            case 10: return root(i.a) && place(i.b);
            case 11: return number(i.a) && number(i.b) && place(i.c);
            case 12: return place(i.a);
            case 13: return root(i.a) && root(i.b) && place(i.c);
            default: return false;
        }
    }

    private int end(Instruction i) {
        if (!isRight(i)) {
            return 1;
        }
        if (i.what == 2 || i.what == 3 || i.what == 9) {
            Thing thing = roots[i.what == 2 ? i.a : i.b];
            if (thing == null) {
                return 2;
            }
            if (i.what != 9 && !within(i.what == 2 ? i.b : i.c, 0, thing.fields.length - 1)) {
                return 3;
            }
        }
        return i.what == 5 && stack.size() == 40 || i.what == 6 && stack.isEmpty() ? 4 : 0;
    }

    private boolean perform(Instruction i) {
        int next = place + 1;
        switch (i.what) {
            case 1: case 14:
                Thing made = fresh(i.b, numbers[i.c], i.what == 14);
                if (made == null) {
                    return false;
                }
                roots[i.a] = made;
                break;
            case 2: store(roots[i.a], i.b, i.c == -1 ? null : roots[i.c]); break;
            case 3: roots[i.a] = roots[i.b].fields[i.c]; break;
            case 4: roots[i.a] = i.b == -1 ? null : roots[i.b]; break;
            case 5: stack.add(roots[i.a]); break;
            case 6: roots[i.a] = stack.remove(stack.size() - 1); break;
            case 7: numbers[i.a] = i.b; break;
            case 8: numbers[i.a] = numbers[i.b] + numbers[i.c]; break;
            case 9: numbers[i.a] = roots[i.b].label; break;
            case 10: next = roots[i.a] == null ? i.b : next; break;
            case 11: next = numbers[i.a] < numbers[i.b] ? i.c : next; break;
            case 12: next = i.a; break;
            default: next = roots[i.a] == roots[i.b] ? i.c : next; break;
        }
        place = next;
        return true;
    }

    private void tell(StringBuilder text, int row, List<Integer> addresses) {
        text.append(" row").append(row);
        for (int address : addresses) {
            text.append(' ').append(address);
        }
    }

    private static List<Integer> addresses(List<Thing> things) {
        List<Integer> all = new ArrayList<>();
        for (Thing thing : things) {
            all.add(address(thing));
        }
        return all;
    }

    private static List<Integer> noted(List<Note> notes) {
        List<Integer> all = new ArrayList<>();
        for (Note note : notes) {
            all.add(note.address);
        }
        return all;
    }

    String text() {
        StringBuilder text = new StringBuilder("counts");
        int[] counts = {words(inUse.get(0)), words(inUse.get(1)), words(inUse.get(2)), remembered.get(0).size(),
            remembered.get(1).size(), buffer.size(), stack.size(), wishes.size(), queue.size(), collections[0],
            collections[1], collections[2], overflows, copied, promoted};
        for (int count : counts) {
            text.append(' ').append(count);
        }
        text.append(" roots");
        for (Thing root : roots) {
            text.append(' ').append(address(root));
        }
        tell(text, 0, noted(remembered.get(0)));
        tell(text, 1, noted(remembered.get(1)));
        tell(text, 2, noted(buffer));
        tell(text, 3, addresses(stack));
        tell(text, 4, addresses(wishes));
        tell(text, 5, addresses(queue));
        tell(text, 6, addresses(java.util.Arrays.asList(weak)));
        text.append(" words");
        for (int g = 0; g < 3; g++) {
            for (Thing thing : inUse.get(g)) {
                int at = thing.address;
                text.append(' ').append(at++).append(':')
                    .append(thing.fields.length + 8 * thing.age + (thing.keen ? 64 : 0));
                text.append(' ').append(at++).append(':').append(thing.label);
                for (Thing has : thing.fields) {
                    text.append(' ').append(at++).append(':').append(address(has));
                }
            }
        }
        text.append(" machine ").append(steps).append(' ').append(place);
        for (int number : numbers) {
            text.append(' ').append(number);
        }
        return text.toString();
    }
}
