/**
 * "A call that answers false or NONE, or throws, changes nothing": every call that a promise refuses, in every kind of
 * state. Which exception is due where two are is told in README.md.
 */
public final class RefusalTest {
    private static final int LEAST = Integer.MIN_VALUE;
    private static final int MOST = Integer.MAX_VALUE;
    private static final String ARGUMENT = "IllegalArgumentException";
    private static final String STATE = "IllegalStateException";
    private static final String INDEX = "IndexOutOfBoundsException";
    private static final String NONE = "-1";
    private static final String FALSE = "0";

    private final State state;

    private RefusalTest(State state) {
        this.state = state;
    }

    public static void main(String[] args) {
        for (State state : State.ALL) {
            RefusalTest test = new RefusalTest(state);
            test.isAsItSays();
            test.feed();
            test.word();
            test.declare();
            test.validate();
            test.fault();
            test.argument();
            test.invoke();
            test.run();
            test.stop();
            test.result();
            test.look();
            test.value();
            test.peekAndPoke();
        }
        Check.finish("RefusalTest");
    }

    private void refused(String what, String due, Seen.Ask ask) {
        Seen.refused(state.name() + ": " + what, due, state.story(), ask);
    }

    /** What the other tests take for granted of the state. */
    private void isAsItSays() {
        WasmCore x = Seen.told(state.story());
        int[] due = {state.status(), x.look(1), x.look(2), state.depth(), x.look(4), state.pages(), state.words()};
        for (int which = 0; which < due.length; which++) {
            Check.same(state.name() + ": look(" + which + ")", x.look(which), due[which]);
        }
        for (int i = state.waiting() + 1; i <= 4; i++) {
            Check.same(state.name() + ": an argument", x.argument(0), i);
        }
        Check.same(state.name() + ": a fault", x.fault(0) >= 0 ? 1 : 0, state.faulty() ? 1 : 0);
    }

    private void feed() {
        for (int n : new int[] {0, 9, -1, -8, 256 + 1, LEAST, MOST}) {
            refused("feed(" + n + ")", ARGUMENT, x -> x.feed(n, 0x0B0B0B0B0B0B0B0BL));
        }
        for (int n = 1; n <= 8; n++) {
            int count = n;
            if (state.status() != State.OPEN || state.words() + n > 240) {
                refused("feed(" + n + ")", STATE, x -> x.feed(count, 0x0B0B0B0B0B0B0B0BL));
            }
        }
    }

    private void word() {
        if (state.status() != State.OPEN || state.words() == 240) {
            for (int word : new int[] {0, 0x0B, -1, LEAST, MOST}) {
                refused("word(" + word + ")", STATE, x -> x.word(word));
            }
        }
    }

    private void declare() {
        int[][] wrong = {{-1, 0, 0}, {5, 0, 0}, {0, -1, 0}, {0, 5, 0}, {0, 0, -1}, {0, 0, 2}, {LEAST, 4, 1}, {MOST, 4, 1},
            {4, LEAST, 1}, {4, MOST, 1}, {4, 4, LEAST}, {4, 4, MOST}, {5, 5, 2}, {-1, -1, -1}};
        for (int[] w : wrong) {
            refused("declare(" + w[0] + ", " + w[1] + ", " + w[2] + ")", ARGUMENT, x -> x.declare(w[0], w[1], w[2]));
        }
        if (state.status() != State.OPEN || state.functions() == 6 || state.loose() == 0) {
            refused("declare(0, 0, 0)", STATE, x -> x.declare(0, 0, 0));
            refused("declare(4, 4, 1)", STATE, x -> x.declare(4, 4, 1));
        }
    }

    private void validate() {
        if (state.status() != State.OPEN || state.functions() == 0 || state.loose() > 0) {
            refused("validate()", STATE, WasmCore::validate);
        }
    }

    private void fault() {
        for (int w : new int[] {-1, 2, 3, LEAST, MOST}) {
            refused("fault(" + w + ")", NONE, x -> x.fault(w));
        }
        if (!state.faulty()) {
            refused("fault(0)", NONE, x -> x.fault(0));
            refused("fault(1)", NONE, x -> x.fault(1));
        }
    }

    private void argument() {
        if (state.waiting() == 4) {
            for (int v : new int[] {0, 1, -1, LEAST, MOST}) {
                refused("argument(" + v + ")", NONE, x -> x.argument(v));
            }
        }
    }

    private void invoke() {
        boolean never = state.status() == State.OPEN || state.status() == State.RUNNING;
        for (int f : new int[] {-1, state.functions(), state.functions() + 1, 6, LEAST, MOST}) {
            refused("invoke(" + f + ")", never ? STATE : INDEX, x -> Seen.invoked(x, f));
        }
        for (int f = 0; f < state.functions(); f++) {
            int function = f;
            if (never) {
                refused("invoke(" + f + ")", STATE, x -> Seen.invoked(x, function));
            } else if (parametersOf(f) != state.waiting()) {
                refused("invoke(" + f + ")", ARGUMENT, x -> Seen.invoked(x, function));
            }
        }
    }

    /** In the states that can be invoked, functions beyond the module's have no parameters. */
    private int parametersOf(int f) {
        if (f == 0) {
            return 4;
        }
        boolean module = !state.name().equals("READY, an ERROR before");
        return module && f < State.PARAMETERS.length ? State.PARAMETERS[f] : 0;
    }

    private void run() {
        for (int fuel : new int[] {-1, 501, 502, 1000, LEAST, MOST}) {
            refused("run(" + fuel + ")", NONE, x -> x.run(fuel));
        }
        if (state.status() != State.RUNNING) {
            // no refusal, but no step either
            refused("run(0)", "0", x -> x.run(0));
            refused("run(500)", "0", x -> x.run(500));
        }
        refused("run(0)", "0", x -> x.run(0));
    }

    private void stop() {
        if (state.status() != State.RUNNING) {
            refused("stop()", FALSE, x -> x.stop() ? 1 : 0);
        }
    }

    private void result() {
        if (state.status() != State.DONE) {
            refused("result()", STATE, WasmCore::result);
        }
    }

    private void look() {
        for (int which : new int[] {-1, 7, 8, LEAST, MOST}) {
            refused("look(" + which + ")", NONE, x -> x.look(which));
        }
        if (state.status() != State.RUNNING) {
            refused("look(2)", NONE, x -> x.look(2));
        }
    }

    private void value() {
        int[] counts = {state.depth(), state.locals(), 4};
        for (int which = 0; which <= 2; which++) {
            int kind = which;
            for (int k : new int[] {-1, counts[which], counts[which] + 1, 101, LEAST, MOST}) {
                refused("value(" + which + ", " + k + ")", INDEX, x -> x.value(kind, k));
            }
        }
        for (int which : new int[] {-1, 3, LEAST, MOST}) {
            refused("value(" + which + ", 0)", INDEX, x -> x.value(which, 0));
            refused("value(" + which + ", -1)", INDEX, x -> x.value(which, -1));
        }
    }

    private void peekAndPoke() {
        int size = 64 * state.pages();
        for (int a : new int[] {-1, size, size + 1, 256, LEAST, MOST}) {
            refused("peek(" + a + ")", NONE, x -> x.peek(a));
            refused("poke(" + a + ", 1)", FALSE, x -> x.poke(a, 1) ? 1 : 0);
        }
        if (state.status() == State.RUNNING) {
            for (int a : new int[] {0, 1, size - 1}) {
                refused("poke(" + a + ", 99)", FALSE, x -> x.poke(a, 99) ? 1 : 0);
            }
        }
    }
}
