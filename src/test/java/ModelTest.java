/** Promises 1 to 20 together: many runs of calls, each answer and the state behind it held against the Model. */
public final class ModelTest {
    private static final Due DUE = new Due();
    private static final int RUNS = 240;
    private static final int CALLS = 512;

    private interface Call {
        int answer();
    }

    private long seed;
    private boolean calm;
    private StoreNotes x;
    private Model model;
    private String told;
    private Call real;
    private Call due;

    public static void main(String[] args) {
        for (int run = 0; run < RUNS; run++) {
            if (!new ModelTest().isSame(run)) {
                break;
            }
        }
        DUE.end();
    }

    /** The same numbers each time: a test that fails, fails again. */
    private int number(int bound) {
        seed = seed * 6364136223846793005L + 1442695040888963407L;
        return (int) ((seed >>> 33) % bound);
    }

    /** Now and then a number that is none of those from least on. */
    private int about(int least, int count) {
        return number(60) == 0 ? least - 1 + number(2) * (count + 1) : least + number(count);
    }

    private boolean isSame(int run) {
        seed = run * 7919L + 5;
        number(2);
        int size = number(12) == 0 ? number(160) : 16 + number(40);
        int limit0 = number(3) == 0 ? number(9) - 1 : number(3);
        int limit1 = number(3) == 0 ? number(9) - 1 : number(3);
        int buffer = number(5) == 0 ? number(80) : 1 + number(8);
        x = new StoreNotes(size, limit0, limit1, buffer);
        model = new Model(size, limit0, limit1, buffer);
        String made = "run " + run + " new(" + size + ", " + limit0 + ", " + limit1 + ", " + buffer + ") call ";
        int roots = 2 + number(14);
        // Every other run collects seldom and drops much, so that stores are REMEMBERED between collections.
        calm = run % 2 == 0;
        for (int call = 0; call < CALLS; call++) {
            choose(roots);
            String got = answer(real) + " " + State.of(x);
            String want = answer(due) + " " + model.text();
            if (!got.equals(want)) {
                DUE.same(made + call + " " + told, got, want);
                return false;
            }
        }
        return true;
    }

    private static String answer(Call call) {
        try {
            return "" + call.answer();
        } catch (RuntimeException e) {
            return "throws." + e.getClass().getSimpleName();
        }
    }

    private void call(String told, Call real, Call due) {
        this.told = told;
        this.real = real;
        this.due = due;
    }

    private void choose(int roots) {
        int a = about(0, roots);
        int b = about(0, roots);
        int kind = number(100);
        if (kind < 18) {
            int fields = about(0, 7);
            int label = number(1000) - 500;
            boolean keen = number(4) == 0;
            call("make " + a + " " + fields + " " + keen, () -> x.make(a, fields, label, keen),
                () -> model.make(a, fields, label, keen));
        } else if (kind < 22) {
            int times = about(1, number(3) == 0 ? 40 : 6);
            call("push " + a + " " + times, () -> x.push(a, 7, times), () -> model.push(a, 7, times));
        } else if (kind < 46) {
            int field = about(0, 3);
            int other = number(8) == 0 ? -1 : b;
            call("put " + a + " " + field + " " + other, () -> x.put(a, field, other),
                () -> model.put(a, field, other));
        } else if (kind < 52) {
            int field = about(0, 3);
            call("get " + a + " " + b + " " + field, () -> x.get(a, b, field), () -> model.get(a, b, field));
        } else if (kind < 62) {
            int other = number(3) == 0 ? b : -1;
            call("move " + a + " " + other, () -> x.move(a, other), () -> model.move(a, other));
        } else if (kind < 78) {
            chooseOther(a, number(10));
        } else if (calm && kind < 83) {
            call("move " + a + " -1", () -> x.move(a, -1), () -> model.move(a, -1));
        } else if (kind < 84) {
            int generation = number(20) == 0 ? number(5) - 1 : number(8) < 5 ? 0 : number(9) / 2 % 3;
            call("collect " + generation, () -> x.collect(generation), () -> model.collect(generation));
        } else {
            chooseMachine(roots, number(10));
        }
    }

    private void chooseOther(int a, int kind) {
        int place = about(0, 8);
        switch (kind) {
            case 0: case 1: call("keep " + a, () -> x.keep(a), () -> model.keep(a)); break;
            case 2: case 3: call("back " + a, () -> x.back(a), () -> model.back(a)); break;
            case 4: case 5: call("weak " + place + " " + a, () -> x.weak(place, a), () -> model.weak(place, a)); break;
            case 6: call("strong " + a + " " + place, () -> x.strong(a, place), () -> model.strong(a, place)); break;
            case 7: case 8: call("wish " + a, () -> x.wish(a), () -> model.wish(a)); break;
            default:
                int what = about(0, 9);
                call("about " + a + " " + what, () -> x.about(a, what), () -> model.about(a, what));
                break;
        }
    }

    private void chooseMachine(int roots, int kind) {
        if (kind < 5) {
            int[] code = instruction(roots);
            call("code " + code[0] + " " + code[1] + " " + code[2] + " " + code[3],
                () -> x.code(code[0], code[1], code[2], code[3]),
                () -> model.code(code[0], code[1], code[2], code[3]));
        } else if (kind < 9 || number(4) > 0) {
            int place = about(0, number(3) == 0 ? 60 : 6);
            int steps = number(4) == 0 ? about(0, 401) : number(30);
            call("run " + place + " " + steps, () -> x.run(place, steps), () -> model.run(place, steps));
        } else {
            call("scrap", x::scrap, model::scrap);
        }
    }

    private int[] instruction(int roots) {
        String[] kinds = {"---", "rni", "rfr", "rrf", "rr-", "r--", "r--", "iv-", "iii", "ir-", "rp-", "iip", "p--",
            "rrp", "rni", "---"};
        int what = number(40) == 0 ? number(17) - 1 : 1 + number(14);
        int[] code = {what, 0, 0, 0};
        for (int k = 0; k < 3 && what >= 0 && what < kinds.length; k++) {
            switch (kinds[what].charAt(k)) {
                case 'r': code[k + 1] = number(12) == 0 ? -1 : about(0, roots); break;
                case 'n': code[k + 1] = about(0, 7); break;
                case 'i': code[k + 1] = about(0, 8); break;
                case 'f': code[k + 1] = number(8) == 0 ? about(0, 6) : about(0, 3); break;
                case 'p': code[k + 1] = about(0, 10); break;
                default: code[k + 1] = number(9) - 4; break;
            }
        }
        return code;
    }
}
