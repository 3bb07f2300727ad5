/** Collects the calls whose answers are not the ones that are due. */
final class Due {
    /** A call of the face. */
    interface Call {
        long answer();
    }

    /** Makes an object and uses it, each time alike. */
    interface Maker {
        StoreNotes made();
    }

    /** A call of the face of the object that it is told. */
    interface On {
        long answer(StoreNotes x);
    }

    private int wrong = 0;

    void is(String told, long want, Call call) {
        tell(told, answer(call), "" + want);
    }

    void bounds(String told, StoreNotes x, Call call) {
        throwsAndKeeps(told, x, call, "IndexOutOfBoundsException");
    }

    void argument(String told, StoreNotes x, Call call) {
        throwsAndKeeps(told, x, call, "IllegalArgumentException");
    }

    void state(String told, StoreNotes x, Call call) {
        throwsAndKeeps(told, x, call, "IllegalStateException");
    }

    private void throwsAndKeeps(String told, StoreNotes x, Call call, String name) {
        String before = State.of(x);
        tell(told, answer(call), "throws." + name);
        tell("the state behind " + told, State.of(x), before);
    }

    /** For what only tells: there is nothing that it could change. */
    void noSuch(String told, Call call) {
        tell(told, answer(call), "throws.IndexOutOfBoundsException");
    }

    /** A new object throws the exception and is then like a second one that was not called, its CODE too. */
    void refuses(String told, String name, Maker maker, On call) {
        StoreNotes called = maker.made();
        StoreNotes other = maker.made();
        tell(told, answer(() -> call.answer(called)), "throws." + name);
        tell("the state behind " + told, State.of(called), State.of(other));
        tell("the CODE behind " + told, "" + called.scrap(), "" + other.scrap());
    }

    private static String answer(Call call) {
        try {
            return "" + call.answer();
        } catch (RuntimeException e) {
            return "throws." + e.getClass().getSimpleName();
        }
    }

    void same(String told, String got, String want) {
        tell(told, got, want);
    }

    private void tell(String told, String got, String want) {
        if (!got.equals(want)) {
            wrong++;
            System.out.println(told + " answered " + got + ", due is " + want);
        }
    }

    void end() {
        System.out.println(wrong == 0 ? "all answers are as due" : wrong + " answers are not as due");
        if (wrong != 0) {
            System.exit(1);
        }
    }
}
