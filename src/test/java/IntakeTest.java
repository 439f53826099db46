/** Promises 1 (a new object), 2 (feed), 3 (word), 4 (declare) and 7 (clear). */
public final class IntakeTest {
    private static final Class<IllegalArgumentException> ARGUMENT = IllegalArgumentException.class;
    private static final Class<IllegalStateException> STATE = IllegalStateException.class;

    public static void main(String[] args) {
        newObject();
        feedTakesTheHighestByteFirst();
        feedRefuses();
        wordTakesAnyInt();
        wordRefuses();
        declareCutsTheCode();
        declareRefuses();
        clearBeginsAnew();
        clearInTheMiddleOfARun();
        Check.finish("IntakeTest");
    }

    private static void newObject() {
        WasmCore x = new WasmCore();
        int[] due = {0, 0, -1, 0, 0, 1, 0, -1};
        for (int which = 0; which < due.length; which++) {
            Check.same("1: look(" + which + ") of a new object", x.look(which), due[which]);
        }
        for (int a = 0; a < 64; a++) {
            Check.same("1: peek(" + a + ") of a new object", x.peek(a), 0);
        }
        Check.same("1: peek(64) of a new object", x.peek(64), -1);
        for (int k = 0; k < 4; k++) {
            Check.same("1: global " + k + " of a new object", x.value(2, k), 0);
        }
        Check.same("1: fault(0) of a new object", x.fault(0), -1);
        Check.same("1: the first argument of a new object", x.argument(9), 1);
    }

    private static void feedTakesTheHighestByteFirst() {
        WasmCore x = new WasmCore();
        // const 255, const 1, sub, end: told apart from other orders, and from words with a sign, by its result
        Check.same("2: feed(6)", x.feed(6, 0x99_99_41_FF_41_01_6B_0BL), 6);
        x.declare(0, 0, 1);
        Check.checked(x);
        Check.same("2: the result of what was fed", Check.resultOf(x, 0), 254);
        x.clear();
        Check.same("2: feed(1) takes the lowest byte alone", x.feed(1, 0xFFFFFFFFFFFFFF41L), 1);
        Check.same("2: feed(8) takes the highest byte too", x.feed(8, 0x80_41_03_6C_01_01_01_0BL), 9);
        x.declare(0, 0, 1);
        Check.checked(x);
        Check.same("2: 128 * 3", Check.resultOf(x, 0), 384);
    }

    private static void feedRefuses() {
        WasmCore x = new WasmCore();
        for (int n : new int[] {0, -1, 9, Integer.MAX_VALUE, Integer.MIN_VALUE}) {
            Check.fails("2: feed(" + n + ", 0)", ARGUMENT, () -> x.feed(n, 0));
        }
        Check.same("2: nothing was added", x.look(6), 0);
        for (int i = 1; i <= 29; i++) {
            Check.same("2: feed(8)", x.feed(8, 0x0101010101010101L), 8 * i);
        }
        Check.same("2: feed(7)", x.feed(7, 0x01010101010101L), 239);
        Check.fails("2: feed(2) with 239", STATE, () -> x.feed(2, 0x0B0BL));
        Check.fails("2: feed(0) with 239", ARGUMENT, () -> x.feed(0, 0));
        Check.same("2: still", x.look(6), 239);
        Check.same("2: feed(1) with 239", x.feed(1, 0x0B), 240);
        Check.fails("2: feed(1) with 240", STATE, () -> x.feed(1, 0x0B));
        x.declare(0, 0, 0);
        Check.checked(x);
        Check.fails("2: feed(1) when READY", STATE, () -> x.feed(1, 0x0B));
        Check.fails("2: feed(9) when READY", ARGUMENT, () -> x.feed(9, 0x0B));
        WasmCore y = Check.checked(Check.single(0, 0, 0, 0x0B));
        Check.fails("2: feed(1) when READY, with room", STATE, () -> y.feed(1, 0x0B));
        y.invoke(0);
        Check.fails("2: feed(1) when RUNNING", STATE, () -> y.feed(1, 0x0B));
        y.run(1);
        Check.fails("2: feed(1) when DONE", STATE, () -> y.feed(1, 0x0B));
    }

    private static void wordTakesAnyInt() {
        for (int word : new int[] {0, -1, 255, 256, Integer.MAX_VALUE, Integer.MIN_VALUE}) {
            WasmCore x = new WasmCore();
            Check.same("3: word(0x41)", x.word(0x41), 1);
            Check.same("3: word(" + word + ")", x.word(word), 2);
            Check.same("3: word(0x0B)", x.word(0x0B), 3);
            x.declare(0, 0, 1);
            Check.checked(x);
            Check.same("3: const " + word, Check.resultOf(x, 0), word);
        }
    }

    private static void wordRefuses() {
        WasmCore x = new WasmCore();
        for (int i = 1; i <= 239; i++) {
            Check.same("3: word(1)", x.word(1), i);
        }
        Check.same("3: the last word", x.word(0x0B), 240);
        Check.fails("3: one more word", STATE, () -> x.word(1));
        Check.same("3: still", x.look(6), 240);
        WasmCore y = Check.checked(Check.single(0, 0, 0, 0x0B));
        Check.fails("3: word when READY", STATE, () -> y.word(1));
        y.invoke(0);
        Check.fails("3: word when RUNNING", STATE, () -> y.word(1));
        y.run(1);
        Check.fails("3: word when DONE", STATE, () -> y.word(1));
        WasmCore z = Check.checked(Check.single(0, 0, 0, 0x00, 0x0B));
        z.invoke(0);
        z.run(1);
        Check.fails("3: word when TRAPPED", STATE, () -> z.word(1));
        WasmCore bad = Check.single(0, 0, 0, 0x7F);
        bad.validate();
        Check.same("3: word behind an ERROR", bad.word(1), 2);
    }

    private static void declareCutsTheCode() {
        WasmCore x = new WasmCore();
        for (int f = 0; f < 6; f++) {
            x.word(0x41);
            x.word(10 + f);
            x.word(0x0B);
            Check.same("4: declare", x.declare(0, f % 5, 1), f);
        }
        Check.checked(x);
        for (int f = 0; f < 6; f++) {
            x.invoke(f);
            Check.same("4: body " + f + " begins", x.look(2), 3 * f);
            x.run(500);
            Check.same("4: result of " + f, x.result(), 10 + f);
        }
        WasmCore y = Check.checked(Check.single(4, 4, 1, 0x20, 7, 0x0B));
        Check.same("4: parameters and locals at their most", Check.resultOf(y, 0, 1, 2, 3, 4), 0);
    }

    private static void declareRefuses() {
        WasmCore x = new WasmCore();
        Check.fails("4: declare without a word", STATE, () -> x.declare(0, 0, 0));
        Check.fails("4: declare of a wrong number without a word", ARGUMENT, () -> x.declare(5, 0, 0));
        x.word(0x0B);
        int[][] wrong = {{-1, 0, 0}, {5, 0, 0}, {0, -1, 0}, {0, 5, 0}, {0, 0, -1}, {0, 0, 2}};
        for (int[] w : wrong) {
            Check.fails("4: declare(" + w[0] + ", " + w[1] + ", " + w[2] + ")", ARGUMENT,
                    () -> x.declare(w[0], w[1], w[2]));
        }
        Check.same("4: the first that is right", x.declare(4, 4, 1), 0);
        Check.fails("4: declare without a new word", STATE, () -> x.declare(0, 0, 0));
        for (int f = 1; f < 6; f++) {
            x.word(0x0B);
            Check.same("4: declare", x.declare(0, 0, 0), f);
        }
        x.word(0x0B);
        Check.fails("4: a seventh function", STATE, () -> x.declare(0, 0, 0));
        Check.fails("4: a seventh function, and a wrong number", ARGUMENT, () -> x.declare(0, 0, 2));
        WasmCore y = Check.checked(Check.single(0, 0, 0, 0x0B));
        Check.fails("4: declare when READY", STATE, () -> y.declare(0, 0, 0));
        Check.fails("4: declare of a wrong number when READY", ARGUMENT, () -> y.declare(0, 0, 2));
    }

    private static void clearBeginsAnew() {
        // store8 at 70 behind a grown memory, a global, an argument that waits, and a fault from before
        WasmCore x = new WasmCore();
        Check.function(x, 0, 0, 0, 0x10, 1, 0x0B);
        Check.same("7: an ERROR first", x.validate(), 5);
        Check.function(x, 0, 0, 0, 0x41, 2, 0x40, 0x1A, 0x41, 70, 0x41, 9, 0x3A, 0, 0x41, 8, 0x24, 3, 0x0B);
        Check.checked(x);
        x.poke(5, 7);
        Check.invoke(x, 0);
        x.run(500);
        x.argument(1);
        Check.same("7: pages before clear()", x.look(5), 3);
        Check.same("7: a byte before clear()", x.peek(70), 9);
        Check.same("7: a global before clear()", x.value(2, 3), 8);
        Check.same("7: fault(1) before clear()", x.fault(1), 0);
        x.clear();
        Check.isTrue("7: as a new object", Check.stateOf(x).equals(Check.stateOf(new WasmCore())));
        Check.same("7: no argument waits", x.argument(4), 1);
        Check.fails("7: no function is left", STATE, () -> x.validate());
        x.clear();
        Check.function(x, 0, 0, 1, 0x41, 3, 0x40, 0x1A, 0x41, 70, 0x28, 0, 0x0B);
        Check.checked(x);
        Check.same("7: pages that come again are 0", Check.resultOf(x, 0), 0);
    }

    private static void clearInTheMiddleOfARun() {
        WasmCore x = Check.checked(Check.single(1, 0, 0, 0x41, 1, 0x1A, 0x0B));
        Check.invoke(x, 0, 3);
        x.run(1);
        x.argument(1);
        x.clear();
        Check.isTrue("7: as a new object", Check.stateOf(x).equals(Check.stateOf(new WasmCore())));
        Check.same("7: nothing runs", x.run(5), 0);
        Check.function(x, 0, 2, 1, 0x20, 0, 0x20, 1, 0x6A, 0x0B);
        Check.checked(x);
        Check.same("7: locals are 0 in the next module", Check.resultOf(x, 0), 0);
        WasmCore trapped = Check.checked(Check.single(0, 0, 0, 0x00, 0x0B));
        Check.same("7: a trap", Check.trapOf(trapped, 0), 1);
        trapped.clear();
        Check.same("7: no trap behind clear()", trapped.look(1), 0);
        Check.same("7: OPEN behind clear()", trapped.look(0), 0);
    }
}
