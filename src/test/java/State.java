import java.util.List;

/** States that an object can be in, each with the run of calls that leads to it and what is to be known of it. */
record State(String name, int status, int words, int loose, int functions, int pages, int depth, int locals,
        int waiting, boolean faulty, Seen.Story story) {
    static final int OPEN = 0;
    static final int READY = 1;
    static final int RUNNING = 2;
    static final int DONE = 3;
    static final int TRAPPED = 4;

    /** The parameters of the module's functions. */
    static final int[] PARAMETERS = {4, 0, 2, 0, 0};
    static final int MODULE_WORDS = 70;

    /** Function 0 gives ((7a + b) * 7 + c) * 7 + d, which tells its four arguments apart. */
    static final int[] MIX = {0x20, 0, 0x41, 7, 0x6C, 0x20, 1, 0x6A, 0x41, 7, 0x6C, 0x20, 2, 0x6A, 0x41, 7, 0x6C,
        0x20, 3, 0x6A, 0x0B};
    /** Function 1 sets global 3, grows the memory, stores at 70, and calls function 2 with 5 on the stack. */
    private static final int[] BUSY = {0x41, 9, 0x24, 3, 0x41, 1, 0x40, 0x1A, 0x41, 70, 0x41, 33, 0x3A, 0,
        0x41, 5, 0x41, 6, 0x41, 8, 0x10, 2, 0x6A, 0x0B};
    /** Function 2 gives the product of its two arguments, by a further local, and sets global 1 to it. */
    private static final int[] PRODUCT = {0x20, 0, 0x20, 1, 0x6C, 0x22, 2, 0x24, 1, 0x20, 2, 0x01, 0x0B};
    /** Function 3 sets global 0, then traps. */
    private static final int[] TRAP = {0x41, 3, 0x24, 0, 0x00, 0x0B};
    /** Function 4 goes for ever. */
    private static final int[] FOR_EVER = {0x03, 0, 0x0C, 0, 0x0B, 0x0B};

    static void module(WasmCore x) {
        Check.fed(x, 4, 0, 1, MIX);
        Check.fed(x, 0, 1, 1, BUSY);
        Check.fed(x, 2, 1, 1, PRODUCT);
        Check.fed(x, 0, 0, 0, TRAP);
        Check.fed(x, 0, 0, 0, FOR_EVER);
    }

    static void ready(WasmCore x) {
        module(x);
        x.validate();
    }

    private static void arguments(WasmCore x, int count) {
        for (int i = 0; i < count; i++) {
            x.argument(11 * i - 5);
        }
    }

    private static void nops(WasmCore x, int count) {
        Check.feed(x, Check.repeat(count, 0x01));
    }

    private static void begun(WasmCore x, int f, int steps) {
        ready(x);
        x.invoke(f);
        x.run(steps);
    }

    private static void fullModule(WasmCore x) {
        module(x);
        nops(x, 239 - MODULE_WORDS);
        x.word(0x0B);
        x.declare(0, 0, 0);
    }

    private static void sixFunctions(WasmCore x) {
        Check.fed(x, 4, 0, 1, MIX);
        for (int f = 1; f < 6; f++) {
            Check.fed(x, 0, 0, 1, 0x41, f, 0x0B);
        }
    }

    /** Memory of four pages, 40 values on the stack, two calls under way. */
    private static void wide(WasmCore x) {
        Check.fed(x, 4, 0, 1, MIX);
        Check.fed(x, 0, 0, 0, Check.join(new int[] {0x41, 3, 0x40, 0x1A}, Check.repeat(20, 0x3F),
                new int[] {0x10, 2, 0x0F, 0x0B}));
        Check.fed(x, 0, 4, 0, Check.join(Check.repeat(20, 0x3F), new int[] {0x0F, 0x0B}));
        x.validate();
        x.invoke(1);
        x.run(44);
    }

    private static State open(String name, int words, int loose, int functions, int waiting, Seen.Story story) {
        return new State(name, OPEN, words, loose, functions, 1, 0, 0, waiting, false, story);
    }

    private static State resting(String name, int status, int pages, int waiting, Seen.Story story) {
        return new State(name, status, MODULE_WORDS, 0, 5, pages, 0, 0, waiting, false, story);
    }

    private static State running(String name, int pages, int depth, int locals, int waiting, Seen.Story story) {
        return new State(name, RUNNING, MODULE_WORDS, 0, 5, pages, depth, locals, waiting, false, story);
    }

    static final List<State> ALL = List.of(
            open("new", 0, 0, 0, 0, x -> { }),
            open("OPEN, a word", 1, 1, 0, 0, x -> x.word(0x0B)),
            open("OPEN, a module", MODULE_WORDS, 0, 5, 0, State::module),
            open("OPEN, a module and a word", MODULE_WORDS + 1, 1, 5, 2, x -> {
                module(x);
                x.word(0x0B);
                arguments(x, 2);
            }),
            open("OPEN, 239 words", 239, 239, 0, 0, x -> nops(x, 239)),
            open("OPEN, 240 words", 240, 240, 0, 4, x -> {
                nops(x, 240);
                arguments(x, 4);
            }),
            open("OPEN, 240 words with six functions", 240, 0, 6, 1, x -> {
                fullModule(x);
                arguments(x, 1);
            }),
            open("OPEN, six functions", 36, 0, 6, 0, State::sixFunctions),
            open("OPEN, six functions and a word", 37, 1, 6, 3, x -> {
                sixFunctions(x);
                x.word(0x01);
                arguments(x, 3);
                x.poke(0, 77);
                x.poke(63, 78);
            }),
            new State("OPEN behind an ERROR", OPEN, MODULE_WORDS + 2, 0, 6, 1, 0, 0, 4, true, x -> {
                module(x);
                Check.fed(x, 0, 0, 0, 0x1A, 0x0B);
                x.validate();
                arguments(x, 4);
            }),
            open("cleared", 0, 0, 0, 0, x -> {
                begun(x, 1, 500);
                x.clear();
            }),
            resting("READY", READY, 1, 0, State::ready),
            resting("READY, two arguments", READY, 1, 2, x -> {
                ready(x);
                arguments(x, 2);
            }),
            resting("READY, four arguments", READY, 1, 4, x -> {
                ready(x);
                arguments(x, 4);
            }),
            new State("READY, 240 words", READY, 240, 0, 6, 1, 0, 0, 0, false, x -> {
                fullModule(x);
                x.validate();
            }),
            new State("READY, an ERROR before", READY, 72, 0, 6, 1, 0, 0, 0, true, x -> {
                Check.fed(x, 4, 0, 1, MIX);
                Check.fed(x, 0, 0, 0, 0x10, 2, 0x0B);
                x.validate();
                Check.fed(x, 0, 0, 0, Check.join(Check.repeat(38, 0x01), new int[] {0x0B}));
                Check.fed(x, 0, 0, 0, 0x01, 0x0B);
                Check.fed(x, 0, 0, 0, 0x01, 0x01, 0x01, 0x0B);
                Check.fed(x, 0, 0, 0, 0x01, 0x01, 0x0B);
                x.validate();
            }),
            resting("READY behind stop()", READY, 2, 1, x -> {
                begun(x, 1, 10);
                arguments(x, 1);
                x.stop();
            }),
            running("RUNNING, at its beginning", 1, 0, 1, 0, x -> begun(x, 1, 0)),
            running("RUNNING, in a call", 2, 3, 3, 4, x -> {
                begun(x, 1, 14);
                arguments(x, 4);
            }),
            running("RUNNING for ever", 1, 0, 0, 2, x -> {
                begun(x, 4, 500);
                arguments(x, 2);
            }),
            new State("RUNNING, wide", RUNNING, 71, 0, 3, 4, 40, 4, 0, false, State::wide),
            resting("DONE with a result", DONE, 2, 0, x -> begun(x, 1, 500)),
            new State("DONE without a result", DONE, 240, 0, 6, 1, 0, 0, 4, false, x -> {
                fullModule(x);
                x.validate();
                x.invoke(5);
                x.run(500);
                arguments(x, 4);
            }),
            resting("TRAPPED", TRAPPED, 1, 3, x -> {
                begun(x, 3, 500);
                arguments(x, 3);
            }));
}
