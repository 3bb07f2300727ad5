/** Collects the calls whose answers are not the ones that are due. */
final class Due {
    /** A call of the face. */
    interface Call {
        long answer();
    }

    private int wrong = 0;

    void is(String told, long want, Call call) {
        String got;
        try {
            got = "" + call.answer();
        } catch (RuntimeException e) {
            got = "throws." + e.getClass().getSimpleName();
        }
        tell(told, got, "" + want);
    }

    void bounds(String told, StoreNotes x, Call call) {
        throwsAndKeeps(told, x, call, "IndexOutOfBoundsException");
    }

    void argument(String told, StoreNotes x, Call call) {
        throwsAndKeeps(told, x, call, "IllegalArgumentException");
    }

    void state(String told, StoreNotes x, Call call) {
        throwsAndKeeps(told, x, call, "IllegalStateException");
    }

    private void throwsAndKeeps(String told, StoreNotes x, Call call, String name) {
        String before = State.of(x);
        String got;
        try {
            got = "" + call.answer();
        } catch (RuntimeException e) {
            got = "throws." + e.getClass().getSimpleName();
        }
        tell(told, got, "throws." + name);
        tell("the state behind " + told, State.of(x), before);
    }

    void same(String told, String got, String want) {
        tell(told, got, want);
    }

    private void tell(String told, String got, String want) {
        if (!got.equals(want)) {
            wrong++;
            System.out.println(told + " answered " + got + ", due is " + want);
        }
    }

    void end() {
        System.out.println(wrong == 0 ? "all answers are as due" : wrong + " answers are not as due");
        if (wrong != 0) {
            System.exit(1);
        }
    }
}
