/**
 * The boundary cases of looking in from outside and of the memory (promises 13 to 16, and loads, stores and memory.grow
 * among the Terms), each sentence with a test of its own.
 */
public final class LookLimitsTest {
    private static final int LEAST = Integer.MIN_VALUE;
    private static final int MOST = Integer.MAX_VALUE;
    private static final String INDEX = "IndexOutOfBoundsException";
    private static final int[] LOADS = {0x28, 0x2C, 0x2D, 0x2E, 0x2F};
    private static final int[] STORES = {0x36, 0x3A, 0x3B};

    public static void main(String[] args) {
        lookOf0To6();
        lookAtTheLatestTrap();
        lookWhileRunning();
        valueOf0To2();
        valuesUpToTheLast();
        valuesOfAFullStack();
        peekUpToTheLastByte();
        pokeUpToTheLastByte();
        pokeOfEachNumber();
        pokeUnlessItRuns();
        growUpToFourPages();
        growWithoutSign();
        grownPagesAre0();
        loadsUpToTheLastByte();
        storesUpToTheLastByte();
        offsetsUpToTheLastByte();
        addressesWithoutSign();
        signsOfLoads();
        Check.finish("LookLimitsTest");
    }

    private static int[] row(int... words) {
        return words;
    }

    /** A story that ends with that many pages and nothing running; function 0 is the body. */
    private static Seen.Story pages(int pages, int parameters, int results, int... body) {
        return x -> {
            Check.fed(x, parameters, 0, results, body);
            Check.fed(x, 0, 0, 0, 0x41, pages - 1, 0x40, 0x1A, 0x0B);
            Check.checked(x);
            x.invoke(1);
            x.run(500);
        };
    }

    /** "NONE for any other which". */
    private static void lookOf0To6() {
        for (State state : State.ALL) {
            WasmCore x = Seen.told(state.story());
            for (int which : new int[] {-1, 7, 8, 100, LEAST, MOST}) {
                Check.same("13: " + state.name() + ", look(" + which + ")", x.look(which), -1);
            }
            boolean runs = state.status() == State.RUNNING;
            Check.same("13: " + state.name() + ", the status", x.look(0), state.status());
            Check.same("13: " + state.name() + ", the trap", x.look(1), state.status() == State.TRAPPED ? 1 : 0);
            Check.isTrue("13: " + state.name() + ", the next word", runs ? x.look(2) >= 0 : x.look(2) == -1);
            Check.same("13: " + state.name() + ", the values", x.look(3), state.depth());
            Check.isTrue("13: " + state.name() + ", the calls", runs ? x.look(4) >= 1 : x.look(4) == 0);
            Check.same("13: " + state.name() + ", the pages", x.look(5), state.pages());
            Check.same("13: " + state.name() + ", the words", x.look(6), state.words());
        }
    }

    /** "the latest TRAP if it is TRAPPED, else 0". */
    private static void lookAtTheLatestTrap() {
        // 0 is no trap, 1 unreachable, 2 a division by 0
        WasmCore x = new WasmCore();
        Check.fed(x, 1, 0, 0, 0x20, 0, 0x41, 1, 0x46, 0x04, 0, 0x00, 0x0B, 0x20, 0, 0x41, 2, 0x46, 0x04, 0,
                0x41, 1, 0x41, 0, 0x6D, 0x1A, 0x0B, 0x0B);
        Check.same("13: OPEN", x.look(1), 0);
        Check.checked(x);
        Check.same("13: READY", x.look(1), 0);
        for (int trap : new int[] {1, 2, 0, 2, 1, 0}) {
            Check.invoke(x, 0, trap);
            Check.same("13: RUNNING", x.look(1), 0);
            x.run(500);
            Check.same("13: the latest trap", x.look(1), trap);
            Check.same("13: the status", x.look(0), trap == 0 ? 3 : 4);
        }
        Check.invoke(x, 0, 2);
        x.run(500);
        Check.invoke(x, 0, 2);
        x.stop();
        Check.same("13: READY behind a trap", x.look(1), 0);
        Check.invoke(x, 0, 2);
        x.run(500);
        x.clear();
        Check.same("13: cleared behind a trap", x.look(1), 0);
    }

    /** "while RUNNING .. else NONE", "else 0": before the first step, before the last one and behind it. */
    private static void lookWhileRunning() {
        WasmCore x = Check.checked(Check.fed(new WasmCore(), 0, 0, 1, 0x41, 5, 0x41, 6, 0x6A, 0x0B));
        x.invoke(0);
        int[][] due = {{0, 0}, {2, 1}, {4, 2}, {5, 1}};
        for (int[] line : due) {
            Check.same("13: the next word", x.look(2), line[0]);
            Check.same("13: the values", x.look(3), line[1]);
            Check.same("13: the calls", x.look(4), 1);
            x.run(1);
        }
        Check.same("13: no next word when DONE", x.look(2), -1);
        Check.same("13: no values when DONE", x.look(3), 0);
        Check.same("13: no calls when DONE", x.look(4), 0);
    }

    /** "which 0, 1, 2. IndexOutOfBoundsException if there is none such". */
    private static void valueOf0To2() {
        for (State state : State.ALL) {
            int[] counts = {state.depth(), state.locals(), 4};
            for (int which = 0; which <= 2; which++) {
                int kind = which;
                WasmCore x = Seen.told(state.story());
                for (int k : new int[] {-1, counts[which], LEAST, MOST}) {
                    Check.sameText("14: " + state.name() + ", value(" + which + ", " + k + ")",
                            Seen.answer(x, y -> y.value(kind, k)), INDEX);
                }
                for (int k = 0; k < counts[which]; k++) {
                    int at = k;
                    Check.isFalse("14: " + state.name() + ", value(" + which + ", " + k + ")",
                            Seen.answer(x, y -> y.value(kind, at)).equals(INDEX));
                }
            }
            WasmCore x = Seen.told(state.story());
            for (int which : new int[] {-1, 3, 4, LEAST, MOST}) {
                for (int k : new int[] {-1, 0, 1, 3}) {
                    Check.sameText("14: " + state.name() + ", value(" + which + ", " + k + ")",
                            Seen.answer(x, y -> y.value(which, k)), INDEX);
                }
            }
        }
    }

    /** "Value k of the stack while RUNNING (0 is the lowest), local x of the innermost call, global x". */
    private static void valuesUpToTheLast() {
        WasmCore x = new WasmCore();
        Check.fed(x, 4, 4, 0, 0x41, 70, 0x21, 7, 0x41, 60, 0x24, 0, 0x41, 61, 0x24, 3, 0x41, 50, 0x41, 51,
                0x41, 52, 0x10, 1, 0x0F, 0x0B);
        Check.fed(x, 0, 1, 0, 0x41, 9, 0x21, 0, 0x0B);
        Check.checked(x);
        Check.invoke(x, 0, 1, 2, 3, 4);
        x.run(9);
        values("the stack", x, 0, 50, 51, 52);
        values("eight locals", x, 1, 1, 2, 3, 4, 0, 0, 0, 70);
        values("four globals", x, 2, 60, 0, 0, 61);
        x.run(3);
        values("the stack in the call", x, 0, 50, 51, 52);
        values("one local in the call", x, 1, 9);
        values("four globals in the call", x, 2, 60, 0, 0, 61);
        x.run(2);
        values("no value on the stack when DONE", x, 0);
        values("no local when DONE", x, 1);
        values("four globals when DONE", x, 2, 60, 0, 0, 61);
        WasmCore none = Check.checked(Check.fed(new WasmCore(), 0, 0, 0, 0x0B));
        none.invoke(0);
        values("no value on the stack", none, 0);
        values("no local", none, 1);
    }

    private static void values(String what, WasmCore x, int which, int... due) {
        for (int k = 0; k < due.length; k++) {
            Check.same("14: " + what + ", value " + k, x.value(which, k), due[k]);
        }
        for (int k : new int[] {-1, due.length, LEAST, MOST}) {
            Check.sameText("14: " + what + ", value " + k, Seen.answer(x, y -> y.value(which, k)), INDEX);
        }
    }

    /** All of 100 values, the lowest first. */
    private static void valuesOfAFullStack() {
        WasmCore x = new WasmCore();
        for (int f = 0; f < 5; f++) {
            int[] body = {};
            for (int k = 20 * f; k < 20 * f + 20; k++) {
                body = Check.join(body, row(0x41, k));
            }
            Check.fed(x, 0, 0, 0, Check.join(body, f == 4 ? row(0x0F, 0x0B) : row(0x10, f + 1, 0x0F, 0x0B)));
        }
        Check.checked(x);
        x.invoke(0);
        x.run(104);
        Check.same("13: 100 values", x.look(3), 100);
        Check.same("13: five calls", x.look(4), 5);
        for (int k = 0; k < 100; k++) {
            Check.same("14: value " + k + " of 100", x.value(0, k), k);
        }
        Check.sameText("14: value 100 of 100", Seen.answer(x, y -> y.value(0, 100)), INDEX);
        x.run(1);
        Check.same("13: 80 values are left", x.look(3), 80);
        Check.same("14: value 79 of 80", x.value(0, 79), 79);
        Check.sameText("14: value 80 of 80", Seen.answer(x, y -> y.value(0, 80)), INDEX);
    }

    /** "Byte a of the memory, 0 .. 255; NONE if there is none such", with each number of pages. */
    private static void peekUpToTheLastByte() {
        for (int pages = 1; pages <= 4; pages++) {
            WasmCore x = Seen.told(pages(pages, 0, 0, 0x0B));
            int size = 64 * pages;
            Check.same("13: the pages", x.look(5), pages);
            for (int a = 0; a < size; a++) {
                Check.same("15: peek(" + a + ") of " + pages, x.peek(a), 0);
            }
            for (int a : new int[] {-1, size, size + 1, 256, 1 << 16, 1 << 24, LEAST, LEAST + 1, MOST}) {
                Check.same("15: peek(" + a + ") of " + pages, x.peek(a), -1);
            }
        }
    }

    /** "false if there is none such", with each number of pages. */
    private static void pokeUpToTheLastByte() {
        for (int pages = 1; pages <= 4; pages++) {
            Seen.Story story = pages(pages, 0, 0, 0x0B);
            int size = 64 * pages;
            for (int a : new int[] {0, 1, 63, size - 1}) {
                WasmCore x = Seen.told(story);
                Check.isTrue("16: poke(" + a + ") of " + pages, x.poke(a, 5));
                for (int b = 0; b < size; b++) {
                    Check.same("16: byte " + b, x.peek(b), a == b ? 5 : 0);
                }
            }
            for (int a : new int[] {-1, size, size + 1, 256, LEAST, MOST}) {
                Seen.refused("16: poke(" + a + ") of " + pages, "0", story, x -> x.poke(a, 5) ? 1 : 0);
            }
        }
    }

    /** "becomes v & 255". */
    private static void pokeOfEachNumber() {
        WasmCore x = new WasmCore();
        for (int v = -2; v <= 258; v += v < 2 || v > 252 || v == 127 ? 1 : 5) {
            Check.isTrue("16: poke(63, " + v + ")", x.poke(63, v));
            Check.same("15: what was poked", x.peek(63), v & 255);
        }
        int[][] far = {{LEAST, 0}, {MOST, 255}, {LEAST + 5, 5}, {0x12345678, 0x78}, {-256, 0}, {-257, 255}, {128, 128},
            {-128, 128}};
        for (int[] line : far) {
            Check.isTrue("16: poke(0, " + line[0] + ")", x.poke(0, line[0]));
            Check.same("15: what was poked", x.peek(0), line[1]);
            Check.same("15: its neighbour", x.peek(1), 0);
        }
        // a poked byte is no number with a sign, for a run, too
        WasmCore y = Check.checked(Check.fed(new WasmCore(), 0, 0, 1, 0x41, 0, 0x2D, 0, 0x0B));
        for (int v : new int[] {0, 127, 128, 255}) {
            y.poke(0, v);
            Check.same("16: a run finds " + v, Check.resultOf(y, 0), v);
        }
    }

    /** "false if .. it is RUNNING". */
    private static void pokeUnlessItRuns() {
        for (State state : State.ALL) {
            int last = 64 * state.pages() - 1;
            if (state.status() == State.RUNNING) {
                for (int a : new int[] {0, last}) {
                    Seen.refused("16: poke(" + a + "), " + state.name(), "0", state.story(), x -> x.poke(a, 9) ? 1 : 0);
                }
            } else {
                WasmCore x = Seen.told(state.story());
                Check.isTrue("16: poke(" + last + "), " + state.name(), x.poke(last, 9));
                Check.same("15: what was poked", x.peek(last), 9);
                Check.isFalse("16: poke(" + (last + 1) + "), " + state.name(), x.poke(last + 1, 9));
            }
            // peek is not refused
            Check.isTrue("15: peek, " + state.name(), Seen.told(state.story()).peek(last) >= 0);
        }
    }

    /** "memory.grow takes d: the pages before, if there are at most 4 then .. else -1". */
    private static void growUpToFourPages() {
        for (int pages = 1; pages <= 4; pages++) {
            for (int d = 0; d <= 5; d++) {
                WasmCore x = Seen.told(pages(pages, 1, 1, 0x20, 0, 0x40, 0x0B));
                boolean fits = pages + d <= 4;
                Check.same("10: grow by " + d + " from " + pages, Check.resultOf(x, 0, d), fits ? pages : -1);
                Check.same("13: the pages then", x.look(5), fits ? pages + d : pages);
                int size = 64 * (fits ? pages + d : pages);
                Check.same("15: the last byte", x.peek(size - 1), 0);
                Check.same("15: behind it", x.peek(size), -1);
            }
        }
        // one page after the other, and never a fifth
        WasmCore x = Check.checked(Check.fed(new WasmCore(), 0, 0, 1, 0x41, 1, 0x40, 0x0B));
        for (int due : new int[] {1, 2, 3, -1, -1}) {
            Check.same("10: one page more", Check.resultOf(x, 0), due);
        }
        Check.same("13: four pages", x.look(5), 4);
        // memory.size tells the same
        WasmCore y = Check.checked(Check.fed(new WasmCore(), 0, 0, 1, 0x3F, 0x41, 3, 0x40, 0x1A, 0x3F, 0x41, 10,
                0x6C, 0x6A, 0x0B));
        Check.same("10: memory.size before and behind", Check.resultOf(y, 0), 41);
    }

    /** "(d without sign)": also where the sum of the pages would wrap round to a small one. */
    private static void growWithoutSign() {
        int[] tooMany = {-1, -2, -3, -4, -5, LEAST, LEAST + 1, MOST, MOST - 1, 1 << 26, -(1 << 26), 256, 0x10000};
        for (int pages = 1; pages <= 4; pages++) {
            for (int d : tooMany) {
                WasmCore x = Seen.told(pages(pages, 1, 1, 0x20, 0, 0x40, 0x0B));
                Check.same("10: grow by " + d + " from " + pages, Check.resultOf(x, 0, d), -1);
                Check.same("13: the pages stay", x.look(5), pages);
            }
        }
    }

    /** "memory .. 0": the pages that come later, too. */
    private static void grownPagesAre0() {
        WasmCore x = Check.checked(Check.fed(new WasmCore(), 1, 0, 1, 0x20, 0, 0x40, 0x0B));
        for (int a = 0; a < 64; a++) {
            x.poke(a, 255);
        }
        Check.same("10: grow", Check.resultOf(x, 0, 3), 1);
        for (int a = 60; a < 256; a++) {
            Check.same("10: byte " + a, x.peek(a), a < 64 ? 255 : 0);
        }
    }

    private static int bytesOf(int op) {
        switch (op) {
            case 0x28: case 0x36:
                return 4;
            case 0x2C: case 0x2D: case 0x3A:
                return 1;
            default:
                return 2;
        }
    }

    /** "4 a byte that is beyond the memory", with each number of pages. */
    private static void loadsUpToTheLastByte() {
        for (int pages = 1; pages <= 4; pages++) {
            int size = 64 * pages;
            for (int op : LOADS) {
                int last = size - bytesOf(op);
                WasmCore x = Seen.told(pages(pages, 1, 1, 0x20, 0, op, 0, 0x0B));
                x.poke(size - 1, 1);
                for (int a : new int[] {0, last}) {
                    Check.same("10: " + op + " at " + a, Check.trapOf(x, 0, a), 0);
                    Check.same("10: its result", x.result(), a == 0 ? 0 : 1 << 8 * (bytesOf(op) - 1));
                }
                for (int a = last + 1; a <= size + 1; a++) {
                    Check.same("10: " + op + " at " + a, Check.trapOf(x, 0, a), 4);
                }
            }
        }
    }

    /** As loads; "A trapping instruction changes nothing else": not even the bytes that are there. */
    private static void storesUpToTheLastByte() {
        for (int pages = 1; pages <= 4; pages++) {
            int size = 64 * pages;
            for (int op : STORES) {
                int last = size - bytesOf(op);
                WasmCore x = Seen.told(pages(pages, 1, 0, 0x20, 0, 0x41, 0x04030201, op, 0, 0x0B));
                for (int a = last + 1; a <= size + 1; a++) {
                    Check.same("10: " + op + " at " + a, Check.trapOf(x, 0, a), 4);
                    for (int b = size - 4; b < size; b++) {
                        Check.same("10: byte " + b + " is as before", x.peek(b), 0);
                    }
                }
                Check.same("10: " + op + " at " + last, Check.trapOf(x, 0, last), 0);
                for (int b = size - 5; b < size; b++) {
                    Check.same("10: byte " + b, x.peek(b), b < last ? 0 : b - last + 1);
                }
                Check.same("10: " + op + " at 0", Check.trapOf(x, 0, 0), 0);
                for (int b = 0; b < 5; b++) {
                    Check.same("10: byte " + b, x.peek(b), b < bytesOf(op) ? b + 1 : 0);
                }
            }
        }
    }

    /** "the place is a, without sign, plus o". */
    private static void offsetsUpToTheLastByte() {
        for (int op : new int[] {0x28, 0x2C, 0x2D, 0x2E, 0x2F, 0x36, 0x3A, 0x3B}) {
            boolean store = op >= 0x36;
            int last = 64 - bytesOf(op);
            for (int o : new int[] {0, 1, last - 1, last, last + 1, 64, 65, MOST}) {
                WasmCore x = Check.checked(Check.fed(new WasmCore(), 1, 0, 0, store
                        ? row(0x20, 0, 0x41, 7, op, o, 0x0B) : row(0x20, 0, op, o, 0x1A, 0x0B)));
                for (int a : new int[] {0, 1, last - 1, last, last + 1, -1, -o, -o - 1, -o + 1, LEAST, MOST}) {
                    long place = (a & 0xFFFFFFFFL) + o;
                    Check.same("10: " + op + " at " + a + " + " + o, Check.trapOf(x, 0, a), place <= last ? 0 : 4);
                }
            }
        }
    }

    /** The sum does not wrap round at 32 bits. */
    private static void addressesWithoutSign() {
        for (int o : new int[] {1, 4, 5, 60, 0x100, MOST}) {
            WasmCore load = Check.checked(Check.fed(new WasmCore(), 1, 0, 1, 0x20, 0, 0x28, o, 0x0B));
            WasmCore store = Check.checked(Check.fed(new WasmCore(), 1, 0, 0, 0x20, 0, 0x41, 7, 0x36, o, 0x0B));
            for (int place = 0; place < 4; place++) {
                // as a sum of ints, this would be the place
                int a = place - o;
                if (a < 0) {
                    Check.same("10: load at " + a + " + " + o, Check.trapOf(load, 0, a), 4);
                    Check.same("10: store at " + a + " + " + o, Check.trapOf(store, 0, a), 4);
                    Check.same("15: nothing was stored", store.peek(place), 0);
                }
            }
        }
        for (int a : new int[] {-1, -2, -3, -4, LEAST, LEAST + 1}) {
            WasmCore x = Check.checked(Check.fed(new WasmCore(), 1, 0, 1, 0x20, 0, 0x28, 0, 0x0B));
            Check.same("10: load at " + a, Check.trapOf(x, 0, a), 4);
        }
    }

    /** "_u without sign, _s with": at the last number without and the first one with a sign. */
    private static void signsOfLoads() {
        int[][] due = {
            {0x2C, 0x7F, 0x00, 127}, {0x2C, 0x80, 0x00, -128}, {0x2C, 0xFF, 0x00, -1}, {0x2C, 0x01, 0xFF, 1},
            {0x2D, 0x7F, 0x00, 127}, {0x2D, 0x80, 0x00, 128}, {0x2D, 0xFF, 0xFF, 255},
            {0x2E, 0xFF, 0x7F, 32767}, {0x2E, 0x00, 0x80, -32768}, {0x2E, 0xFF, 0xFF, -1}, {0x2E, 0xFF, 0x00, 255},
            {0x2F, 0xFF, 0x7F, 32767}, {0x2F, 0x00, 0x80, 32768}, {0x2F, 0xFF, 0xFF, 65535},
        };
        for (int[] line : due) {
            WasmCore x = Check.checked(Check.fed(new WasmCore(), 0, 0, 1, 0x41, 10, line[0], 1, 0x0B));
            x.poke(10, 0x55);
            x.poke(11, line[1]);
            x.poke(12, line[2]);
            x.poke(13, 0x55);
            Check.same("10: " + line[0] + " of " + line[1] + ", " + line[2], Check.resultOf(x, 0), line[3]);
        }
    }
}
