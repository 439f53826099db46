/** Promises 15 (peek) and 16 (poke), and the instructions on the memory (10); trap 4. */
public final class MemoryTest {
    private static final int[] LOADS = {0x28, 0x2C, 0x2D, 0x2E, 0x2F};
    private static final int[] STORES = {0x36, 0x3A, 0x3B};

    public static void main(String[] args) {
        peekAndPoke();
        pokeInEveryStatus();
        loadsGive();
        storesPut();
        loadsAtTheEdge();
        storesAtTheEdge();
        theAddressHasNoSign();
        growing();
        growingRefused();
        grownMemoryStays();
        Check.finish("MemoryTest");
    }

    private static int bytesOf(int op) {
        switch (op) {
            case 0x28: case 0x36:
                return 4;
            case 0x2C: case 0x2D: case 0x3A:
                return 1;
            default:
                return 2;
        }
    }

    private static void peekAndPoke() {
        WasmCore x = new WasmCore();
        int[][] rows = {{0, 0, 0}, {0, 255, 255}, {1, 256, 0}, {2, -1, 255}, {63, 300, 44}, {5, -128, 128},
            {6, Integer.MIN_VALUE, 0}, {7, Integer.MAX_VALUE, 255}};
        for (int[] row : rows) {
            Check.isTrue("16: poke(" + row[0] + ", " + row[1] + ")", x.poke(row[0], row[1]));
            Check.same("15: peek(" + row[0] + ")", x.peek(row[0]), row[2]);
        }
        Check.same("15: its neighbour is as it was", x.peek(4), 0);
        Check.same("15: the one poked first is as it was", x.peek(63), 44);
        for (int a : new int[] {-1, 64, 65, 255, 256, Integer.MIN_VALUE, Integer.MAX_VALUE}) {
            String before = Check.stateOf(x);
            Check.same("15: peek(" + a + ")", x.peek(a), -1);
            Check.isFalse("16: poke(" + a + ", 1)", x.poke(a, 1));
            Check.isTrue("16: it changes nothing", before.equals(Check.stateOf(x)));
        }
    }

    private static void pokeInEveryStatus() {
        WasmCore x = Check.single(0, 0, 1, 0x41, 0, 0x2D, 0, 0x0B);
        Check.isTrue("16: when OPEN", x.poke(0, 11));
        Check.checked(x);
        Check.same("15: validate() leaves the memory", x.peek(0), 11);
        Check.isTrue("16: when READY", x.poke(0, 12));
        x.invoke(0);
        Check.isFalse("16: when RUNNING", x.poke(0, 13));
        Check.isFalse("16: when RUNNING, beyond", x.poke(64, 13));
        Check.same("15: when RUNNING", x.peek(0), 12);
        x.run(500);
        Check.same("16: what the run saw", x.result(), 12);
        Check.isTrue("16: when DONE", x.poke(0, 14));
        Check.same("15: when DONE", x.peek(0), 14);
        WasmCore y = Check.checked(Check.single(0, 0, 0, 0x00, 0x0B));
        y.invoke(0);
        y.run(1);
        Check.isTrue("16: when TRAPPED", y.poke(0, 15));
        Check.same("15: when TRAPPED", y.peek(0), 15);
        y.invoke(0);
        y.stop();
        Check.isTrue("16: behind stop()", y.poke(0, 16));
    }

    private static void loadsGive() {
        // bytes 10 .. 13 are 81 92 A3 F4, bytes 20 .. 23 are 7F 6E 5D 4C
        long[][] due = {
            {0x28, 0xF4A39281L, 0x4C5D6E7FL}, {0x2C, 0xFFFFFF81L, 0x7FL}, {0x2D, 0x81L, 0x7FL},
            {0x2E, 0xFFFF9281L, 0x6E7FL}, {0x2F, 0x9281L, 0x6E7FL},
        };
        int[] bytes = {0x81, 0x92, 0xA3, 0xF4, 0x7F, 0x6E, 0x5D, 0x4C};
        for (long[] row : due) {
            WasmCore x = Check.checked(Check.single(1, 0, 1, 0x20, 0, (int) row[0], 3, 0x0B));
            for (int i = 0; i < 8; i++) {
                x.poke(i < 4 ? 10 + i : 16 + i, bytes[i]);
            }
            String what = "10: load " + Long.toHexString(row[0]);
            Check.same(what + " of 10", Check.resultOf(x, 0, 7), (int) row[1]);
            Check.same(what + " of 20", Check.resultOf(x, 0, 17), (int) row[2]);
        }
    }

    private static void storesPut() {
        int value = 0x87A5C3E1;
        for (int op : STORES) {
            WasmCore x = Check.checked(Check.single(2, 0, 0, 0x20, 0, 0x20, 1, op, 2, 0x0B));
            for (int a = 0; a < 64; a++) {
                x.poke(a, 0x55);
            }
            Check.invoke(x, 0, 10, value);
            x.run(3);
            Check.same("10: a store takes both", x.look(3), 0);
            for (int a = 0; a < 64; a++) {
                int k = a - 12;
                boolean stored = k >= 0 && k < bytesOf(op);
                int due = stored ? value >>> 8 * k & 255 : 0x55;
                Check.same("10: store " + op + ", byte " + a, x.peek(a), due);
            }
        }
    }

    private static void loadsAtTheEdge() {
        for (int op : LOADS) {
            int last = 64 - bytesOf(op);
            for (int offset : new int[] {0, 1, last, last + 1, 64, Integer.MAX_VALUE}) {
                WasmCore x = Check.checked(Check.single(1, 0, 1, 0x20, 0, op, offset, 0x0B));
                for (int a : new int[] {0, 1, last - 1, last, last + 1, 63, 64, 65}) {
                    long place = (long) a + offset;
                    String what = "10: load " + op + " at " + a + " + " + offset;
                    Check.same(what, Check.trapOf(x, 0, a), place <= last ? 0 : 4);
                }
            }
        }
    }

    private static void storesAtTheEdge() {
        for (int op : STORES) {
            int last = 64 - bytesOf(op);
            WasmCore x = Check.checked(Check.single(1, 0, 0, 0x20, 0, 0x41, -1, op, 0, 0x0B));
            for (int a = 0; a < 64; a++) {
                x.poke(a, 1);
            }
            for (int a : new int[] {64, 63, 62, 61}) {
                if (a <= last) {
                    continue;
                }
                Check.same("10: store " + op + " at " + a, Check.trapOf(x, 0, a), 4);
                Check.same("10: its steps are over", x.run(9), 0);
                for (int b = 56; b < 64; b++) {
                    Check.same("10: a trapping store puts no byte", x.peek(b), 1);
                }
            }
            Check.same("10: store " + op + " at the last place", Check.trapOf(x, 0, last), 0);
            Check.same("10: the last byte", x.peek(63), 255);
            Check.same("10: the byte before the store", x.peek(last - 1), 1);
        }
    }

    private static void theAddressHasNoSign() {
        WasmCore x = Check.checked(Check.single(1, 0, 1, 0x20, 0, 0x2D, 5, 0x0B));
        x.poke(4, 77);
        // as a sum of ints, -1 + 5 would be 4
        Check.same("10: -1 + 5", Check.trapOf(x, 0, -1), 4);
        Check.same("10: -5 + 5", Check.trapOf(x, 0, -5), 4);
        Check.same("10: the least int", Check.trapOf(x, 0, Integer.MIN_VALUE), 4);
        WasmCore y = Check.checked(Check.single(1, 0, 1, 0x20, 0, 0x28, Integer.MAX_VALUE, 0x0B));
        Check.same("10: the greatest offset", Check.trapOf(y, 0, 0), 4);
        Check.same("10: the greatest place", Check.trapOf(y, 0, -1), 4);
        Check.same("10: a sum that wraps round as an int", Check.trapOf(y, 0, Integer.MIN_VALUE + 1), 4);
    }

    private static WasmCore grower() {
        WasmCore x = Check.single(1, 0, 1, 0x20, 0, 0x40, 0x0B);
        Check.function(x, 0, 0, 1, 0x3F, 0x0B);
        return Check.checked(x);
    }

    private static void growing() {
        WasmCore x = grower();
        int[][] rows = {{0, 1, 1}, {1, 1, 2}, {0, 2, 2}, {2, 2, 4}, {0, 4, 4}, {1, -1, 4}};
        for (int[] row : rows) {
            Check.same("10: memory.grow of " + row[0], Check.resultOf(x, 0, row[0]), row[1]);
            Check.same("10: memory.size behind it", Check.resultOf(x, 1), row[2]);
            Check.same("13: look(5)", x.look(5), row[2]);
            int size = 64 * row[2];
            Check.same("15: the last byte", x.peek(size - 1), 0);
            Check.same("15: beyond the last byte", x.peek(size), -1);
            Check.isTrue("16: the last byte", x.poke(size - 1, 0));
            Check.isFalse("16: beyond the last byte", x.poke(size, 0));
        }
        Check.same("10: 3 more at once", Check.resultOf(grower(), 0, 3), 1);
    }

    private static void growingRefused() {
        for (int d : new int[] {4, 5, -1, -2, -3, Integer.MIN_VALUE, Integer.MAX_VALUE}) {
            WasmCore x = grower();
            Check.same("10: memory.grow of " + d, Check.resultOf(x, 0, d), -1);
            Check.same("10: the pages are as before", x.look(5), 1);
        }
    }

    private static void grownMemoryStays() {
        // grow by 1, store at 100, then trap; what was grown and stored before stays
        WasmCore x = Check.single(0, 0, 0, 0x41, 1, 0x40, 0x1A, 0x41, 100, 0x41, 5, 0x36, 0, 0x00, 0x0B);
        Check.function(x, 0, 0, 1, 0x41, 100, 0x28, 0, 0x0B);
        Check.checked(x);
        Check.same("10: trap 1", Check.trapOf(x, 0), 1);
        Check.same("13: the pages stay", x.look(5), 2);
        Check.same("10: the bytes stay", Check.resultOf(x, 1), 5);
        Check.same("10: the last word of the second page", x.peek(127), 0);
    }
}
