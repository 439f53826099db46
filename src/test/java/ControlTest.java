/** Promise 10 (run), the instructions that say where a run goes on, step by step; traps 1, 5 and 6. */
public final class ControlTest {
    public static void main(String[] args) {
        blocksStepByStep();
        loops();
        ifs();
        branchesKeepWhatTheLabelTakes();
        branchesOutOfTheBody();
        tables();
        returns();
        calls();
        sixCallsAndASeventh();
        aHundredValuesAndOneMore();
        selectDropAndLocals();
        globals();
        Check.finish("ControlTest");
    }

    /** Runs step by step and compares the place of each next instruction; the last step ends the run. */
    private static void path(String what, WasmCore x, int... places) {
        for (int place : places) {
            Check.same("10: " + what + ", the next word", x.look(2), place);
            Check.same("10: " + what + ", a step", x.run(1), 1);
        }
        Check.same("10: " + what + ", DONE", x.look(0), 3);
    }

    private static void blocksStepByStep() {
        // 0 block, 2 nop, 3 end, 4 nop, 5 end
        WasmCore x = Check.checked(Check.single(0, 0, 0, 0x02, 0, 0x01, 0x0B, 0x01, 0x0B));
        x.invoke(0);
        path("block", x, 0, 2, 3, 4, 5);
        // 0 block, 2 br 0, 4 nop, 5 end, 6 nop, 7 end: br goes on behind the end
        WasmCore y = Check.checked(Check.single(0, 0, 0, 0x02, 0, 0x0C, 0, 0x01, 0x0B, 0x01, 0x0B));
        y.invoke(0);
        path("br out of a block", y, 0, 2, 6, 7);
        // 0 block, 2 block, 4 br 1, 6 end, 7 end, 8 end
        WasmCore z = Check.checked(Check.single(0, 0, 0, 0x02, 0, 0x02, 0, 0x0C, 1, 0x0B, 0x0B, 0x0B));
        z.invoke(0);
        path("br out of two blocks", z, 0, 2, 4, 8);
        // 0 block, 2 local.get 0, 4 br_if 0, 6 nop, 7 end, 8 end
        WasmCore w = Check.checked(Check.single(1, 0, 0, 0x02, 0, 0x20, 0, 0x0D, 0, 0x01, 0x0B, 0x0B));
        Check.invoke(w, 0, 0);
        path("br_if of 0", w, 0, 2, 4, 6, 7, 8);
        Check.invoke(w, 0, -5);
        path("br_if of -5", w, 0, 2, 4, 8);
    }

    private static void loops() {
        // 0 loop, 2 local.get 0, 4 const 1, 6 sub, 7 local.tee 0, 9 br_if 0, 11 end, 12 end
        WasmCore x = Check.checked(Check.single(1, 0, 0,
                0x03, 0, 0x20, 0, 0x41, 1, 0x6B, 0x22, 0, 0x0D, 0, 0x0B, 0x0B));
        Check.invoke(x, 0, 2);
        path("loop", x, 0, 2, 4, 6, 7, 9, 2, 4, 6, 7, 9, 11, 12);
        // a loop's label takes nothing: what lies above its beginning goes
        // 0 loop, 2 const 1, 4 const 2, 6 br 0, 8 end, 9 end
        WasmCore y = Check.checked(Check.single(0, 0, 0, 0x03, 0, 0x41, 1, 0x41, 2, 0x0C, 0, 0x0B, 0x0B));
        y.invoke(0);
        y.run(4);
        Check.same("10: br to a loop, the next word", y.look(2), 2);
        Check.same("10: br to a loop, the stack", y.look(3), 0);
        Check.same("10: it goes for ever", y.run(500), 500);
        // with a value below the loop, which stays
        // 0 const 9, 2 loop 1, 4 const 1, 6 br 0, 8 end, 9 add, 10 end
        WasmCore z = Check.checked(Check.single(0, 0, 1, 0x41, 9, 0x03, 1, 0x41, 1, 0x0C, 0, 0x0B, 0x6A, 0x0B));
        z.invoke(0);
        z.run(4);
        Check.same("10: below the loop", z.look(3), 1);
        Check.same("10: the value below the loop", z.value(0, 0), 9);
        // a loop with a result gives it at its end
        WasmCore w = Check.checked(Check.single(0, 0, 1, 0x41, 9, 0x03, 1, 0x41, 1, 0x0B, 0x6A, 0x0B));
        Check.same("10: a loop's result", Check.resultOf(w, 0), 10);
    }

    private static void ifs() {
        // 0 local.get 0, 2 if 0, 4 nop, 5 end, 6 end
        WasmCore x = Check.checked(Check.single(1, 0, 0, 0x20, 0, 0x04, 0, 0x01, 0x0B, 0x0B));
        Check.invoke(x, 0, 1);
        path("if of 1", x, 0, 2, 4, 5, 6);
        Check.invoke(x, 0, 0);
        path("if of 0 without else goes on at its end", x, 0, 2, 5, 6);
        // 0 local.get 0, 2 if 1, 4 const 7, 6 else, 7 const 8, 9 end, 10 end
        WasmCore y = Check.checked(Check.single(1, 0, 1, 0x20, 0, 0x04, 1, 0x41, 7, 0x05, 0x41, 8, 0x0B, 0x0B));
        Check.invoke(y, 0, Integer.MIN_VALUE);
        path("if of the least int", y, 0, 2, 4, 6, 9, 10);
        Check.same("10: its result", y.result(), 7);
        Check.invoke(y, 0, 0);
        path("if of 0 goes on behind its else", y, 0, 2, 7, 9, 10);
        Check.same("10: its result", y.result(), 8);
        // an inner else is not the outer one's
        // 0 get 0, 2 if, 4 get 1, 6 if, 8 nop, 9 else, 10 nop, 11 end, 12 end, 13 end
        WasmCore z = Check.checked(Check.single(2, 0, 0,
                0x20, 0, 0x04, 0, 0x20, 1, 0x04, 0, 0x01, 0x05, 0x01, 0x0B, 0x0B, 0x0B));
        Check.invoke(z, 0, 0, 1);
        path("the outer if of 0", z, 0, 2, 12, 13);
        Check.invoke(z, 0, 1, 0);
        path("the inner if of 0", z, 0, 2, 4, 6, 10, 11, 12, 13);
        // br out of either part goes on behind the end
        // 0 get 0, 2 if, 4 br 0, 6 else, 7 br 0, 9 end, 10 end
        WasmCore w = Check.checked(Check.single(1, 0, 0, 0x20, 0, 0x04, 0, 0x0C, 0, 0x05, 0x0C, 0, 0x0B, 0x0B));
        Check.invoke(w, 0, 1);
        path("br out of an if", w, 0, 2, 4, 10);
        Check.invoke(w, 0, 0);
        path("br out of an else", w, 0, 2, 7, 10);
    }

    private static void branchesKeepWhatTheLabelTakes() {
        // const 1, block 1: const 2, const 3, br 0; add
        WasmCore x = Check.checked(Check.single(0, 0, 1, 0x41, 1, 0x02, 1, 0x41, 2, 0x41, 3, 0x0C, 0, 0x0B, 0x6A, 0x0B));
        x.invoke(0);
        x.run(5);
        Check.same("10: behind br, the next word", x.look(2), 11);
        Check.same("10: behind br, the stack", x.look(3), 2);
        Check.same("10: below the block", x.value(0, 0), 1);
        Check.same("10: what the label takes", x.value(0, 1), 3);
        // const 1, block 0: const 2, const 3, br 0; end without a result needs the 1 to go
        WasmCore y = Check.checked(Check.single(0, 0, 0, 0x41, 1, 0x02, 0, 0x41, 2, 0x41, 3, 0x0C, 0, 0x0B, 0x1A, 0x0B));
        y.invoke(0);
        y.run(5);
        Check.same("10: a label that takes nothing", y.look(3), 1);
        Check.same("10: and what is left", y.value(0, 0), 1);
        // out of two frames at once, from heights of their own: const 5, block 1: const 6, block 0: const 7, br 1
        WasmCore z = Check.checked(Check.single(0, 0, 1,
                0x41, 5, 0x02, 1, 0x41, 6, 0x02, 0, 0x41, 7, 0x0C, 1, 0x0B, 0x0B, 0x6B, 0x0B));
        Check.same("10: 5 - 7", Check.resultOf(z, 0), -2);
        // br_if that does not go keeps all: block 1: const 4, const 0, br_if 0, drop, const 8
        WasmCore w = Check.checked(Check.single(1, 0, 1,
                0x02, 1, 0x41, 4, 0x20, 0, 0x0D, 0, 0x1A, 0x41, 8, 0x0B, 0x0B));
        Check.same("10: br_if does not go", Check.resultOf(w, 0, 0), 8);
        Check.same("10: br_if goes with the value", Check.resultOf(w, 0, 3), 4);
    }

    private static void branchesOutOfTheBody() {
        // 0 const 1, 2 const 2, 4 br 0, 6 end
        WasmCore x = Check.checked(Check.single(0, 0, 1, 0x41, 1, 0x41, 2, 0x0C, 0, 0x0B));
        x.invoke(0);
        path("br to the body's label is a return", x, 0, 2, 4);
        Check.same("10: its result", x.result(), 2);
        // in a called function, with a value below: 0 const 3, 2 call 1, 4 sub, 5 end; 6 block: 8 const 9, 10 br 1
        WasmCore y = Check.single(0, 0, 1, 0x41, 3, 0x10, 1, 0x6B, 0x0B);
        Check.function(y, 0, 0, 1, 0x02, 0, 0x41, 9, 0x0C, 1, 0x0B, 0x00, 0x0B);
        Check.checked(y);
        y.invoke(0);
        path("br out of a called body", y, 0, 2, 6, 8, 10, 4, 5);
        Check.same("10: 3 - 9", y.result(), -6);
        // br to a block and to a loop of a called function falls to a height of that call's own
        WasmCore v = Check.single(1, 0, 1, 0x41, 3, 0x41, 4, 0x20, 0, 0x10, 1, 0x6A, 0x6A, 0x0B);
        Check.function(v, 1, 0, 1, 0x41, 50, 0x03, 0, 0x41, 60, 0x41, 0, 0x20, 0, 0x41, 0, 0x21, 0, 0x0D, 0, 0x1A, 0x1A,
                0x0B, 0x02, 1, 0x41, 70, 0x41, 80, 0x0C, 0, 0x0B, 0x6A, 0x0B);
        Check.checked(v);
        Check.same("10: 3 + 4 + 50 + 80, the loop once", Check.resultOf(v, 0, 0), 137);
        Check.same("10: 3 + 4 + 50 + 80, the loop twice", Check.resultOf(v, 0, 1), 137);
        // br_if to the body's label: 0 const 8, 2 get 0, 4 br_if 0, 6 drop, 7 const 9, 9 end
        WasmCore z = Check.checked(Check.single(1, 0, 1, 0x41, 8, 0x20, 0, 0x0D, 0, 0x1A, 0x41, 9, 0x0B));
        Check.invoke(z, 0, 1);
        path("br_if to the body's label", z, 0, 2, 4);
        Check.same("10: its result", z.result(), 8);
        Check.same("10: br_if that does not go", Check.resultOf(z, 0, 0), 9);
    }

    private static void tables() {
        // three blocks; br_table 2: label 0 gives 10, 1 gives 11, any other goes to label 2 and gives 12
        WasmCore x = Check.checked(Check.single(1, 0, 1,
                0x02, 0, 0x02, 0, 0x02, 0, 0x20, 0, 0x0E, 2, 0, 1, 2, 0x0B, 0x41, 10, 0x0F, 0x0B, 0x41, 11, 0x0F,
                0x0B, 0x41, 12, 0x0B));
        int[][] due = {{0, 10}, {1, 11}, {2, 12}, {3, 12}, {-1, 12}, {Integer.MIN_VALUE, 12}, {Integer.MAX_VALUE, 12}};
        for (int[] row : due) {
            Check.same("10: br_table of " + row[0], Check.resultOf(x, 0, row[0]), row[1]);
        }
        // n = 0: always the one label
        WasmCore y = Check.checked(Check.single(1, 0, 1, 0x41, 6, 0x20, 0, 0x0E, 0, 0, 0x0B));
        Check.same("10: br_table without labels but the last, of 0", Check.resultOf(y, 0, 0), 6);
        Check.same("10: and of 5", Check.resultOf(y, 0, 5), 6);
        // back to a loop: 0 loop 0, 2 get 0, 4 const 1, 6 sub, 7 tee 0, 9 br_table 1: 1 (body), 0 (loop), 13 end, 14 end
        WasmCore z = Check.checked(Check.single(1, 0, 0,
                0x03, 0, 0x20, 0, 0x41, 1, 0x6B, 0x22, 0, 0x0E, 1, 1, 0, 0x0B, 0x0B));
        Check.invoke(z, 0, 2);
        path("br_table to a loop and out of the body", z, 0, 2, 4, 6, 7, 9, 2, 4, 6, 7, 9);
        // all nine labels
        WasmCore w = new WasmCore();
        Check.function(w, 1, 0, 1, Check.join(Check.repeat(8, 0x02, 0),
                new int[] {0x20, 0, 0x0E, 8, 0, 1, 2, 3, 4, 5, 6, 7, 7, 0x0B},
                nineResults(), new int[] {0x41, 7, 0x0B}));
        Check.checked(w);
        for (int i = 0; i < 10; i++) {
            Check.same("10: br_table 8 of " + i, Check.resultOf(w, 0, i), Math.min(i, 7));
        }
    }

    private static int[] nineResults() {
        int[] all = new int[0];
        for (int i = 0; i < 7; i++) {
            all = Check.join(all, new int[] {0x41, i, 0x0F, 0x0B});
        }
        return all;
    }

    private static void returns() {
        // 0 const 1, 2 const 2, 4 block 0, 6 const 3, 8 return, 9 end, 10 drop, 11 end
        WasmCore x = Check.checked(Check.single(0, 0, 1, 0x41, 1, 0x41, 2, 0x02, 0, 0x41, 3, 0x0F, 0x0B, 0x1A, 0x0B));
        x.invoke(0);
        path("return", x, 0, 2, 4, 6, 8);
        Check.same("10: the result of return", x.result(), 3);
        // of a called function without a result: all that it has put on the stack goes
        WasmCore y = Check.single(0, 0, 1, 0x41, 5, 0x10, 1, 0x0B);
        Check.function(y, 0, 0, 0, 0x41, 1, 0x41, 2, 0x0F, 0x0B);
        Check.checked(y);
        y.invoke(0);
        y.run(5);
        Check.same("10: behind return, the stack", y.look(3), 1);
        Check.same("10: behind return, the value below", y.value(0, 0), 5);
        Check.same("10: behind return, the next word", y.look(2), 4);
        Check.same("10: behind return, the calls", y.look(4), 1);
    }

    private static void calls() {
        // function 1 takes 10, 3 and gives 10 - 3, with a further local of its own
        WasmCore x = Check.single(1, 1, 1, 0x41, 100, 0x41, 10, 0x41, 3, 0x10, 1, 0x6A, 0x20, 0, 0x6A, 0x0B);
        Check.function(x, 2, 1, 1, 0x20, 0, 0x20, 1, 0x6B, 0x22, 2, 0x22, 0, 0x0B);
        Check.checked(x);
        Check.invoke(x, 0, 4000);
        x.run(4);
        Check.same("10: in the call, the next word", x.look(2), 13);
        Check.same("10: in the call, the calls", x.look(4), 2);
        Check.same("10: the arguments are taken", x.look(3), 1);
        Check.same("10: the first argument", x.value(1, 0), 10);
        Check.same("10: the second argument", x.value(1, 1), 3);
        Check.same("10: the further local", x.value(1, 2), 0);
        x.run(5);
        Check.same("10: its local is set", x.value(1, 2), 7);
        x.run(1);
        Check.same("10: behind the call, the next word", x.look(2), 8);
        Check.same("10: behind the call, the caller's local", x.value(1, 0), 4000);
        Check.same("10: behind the call, the stack", x.look(3), 2);
        Check.same("10: behind the call, its result", x.value(0, 1), 7);
        x.run(500);
        Check.same("10: 100 + 7 + 4000", x.result(), 4107);
        // the factorial by recursion: get 0, if 1: get 0, get 0, const 1, sub, call 0, mul; else const 1
        WasmCore y = Check.checked(Check.single(1, 0, 1, 0x20, 0, 0x04, 1, 0x20, 0, 0x20, 0, 0x41, 1, 0x6B, 0x10, 0,
                0x6C, 0x05, 0x41, 1, 0x0B, 0x0B));
        Check.same("10: 5! with six calls", Check.resultOf(y, 0, 5), 120);
        Check.same("10: 6! with seven", Check.trapOf(y, 0, 6), 6);
        Check.same("10: 5! again", Check.resultOf(y, 0, 5), 120);
        // a second call at the same depth finds its locals 0
        WasmCore z = Check.single(0, 0, 1, 0x10, 1, 0x1A, 0x10, 1, 0x0B);
        Check.function(z, 0, 1, 1, 0x20, 0, 0x41, 7, 0x21, 0, 0x0B);
        Check.checked(z);
        Check.same("10: locals of a second call", Check.resultOf(z, 0), 0);
    }

    private static void sixCallsAndASeventh() {
        // global 0 counts the calls before each next one
        WasmCore x = Check.checked(Check.single(0, 0, 0, 0x23, 0, 0x41, 1, 0x6A, 0x24, 0, 0x10, 0, 0x0B));
        x.invoke(0);
        Check.same("10: the steps to the seventh call", x.run(500), 30);
        Check.same("10: TRAPPED", x.look(0), 4);
        Check.same("10: trap 6", x.look(1), 6);
        Check.same("10: six calls were under way", x.value(2, 0), 6);
        Check.same("10: none is, now", x.look(4), 0);
        WasmCore y = Check.checked(Check.single(0, 0, 0, 0x10, 0, 0x0B));
        y.invoke(0);
        y.run(5);
        Check.same("10: six calls", y.look(4), 6);
        Check.same("10: still RUNNING", y.look(0), 2);
        Check.same("10: the next is one too many", y.run(9), 1);
        Check.same("10: trap 6 again", y.look(1), 6);
    }

    private static void aHundredValuesAndOneMore() {
        // each of the calls puts 20 values on the stack: the first value of the sixth call has no room
        int[] twenty = Check.repeat(20, 0x3F);
        WasmCore x = Check.checked(Check.single(0, 0, 0,
                Check.join(twenty, new int[] {0x10, 0}, Check.repeat(20, 0x1A), new int[] {0x0B})));
        x.invoke(0);
        Check.same("10: 100 values and 5 calls", x.run(105), 105);
        Check.same("10: RUNNING", x.look(0), 2);
        Check.same("10: 100 values", x.look(3), 100);
        Check.same("10: 6 calls", x.look(4), 6);
        Check.same("10: the highest value", x.value(0, 99), 1);
        Check.same("10: one more", x.run(5), 1);
        Check.same("10: trap 5", x.look(1), 5);
        Check.same("10: trap 5 is TRAPPED", x.look(0), 4);
        sixthCall("const", 5, 1, 0, 0x41, 3, 0x1A, 0x0B);
        sixthCall("local.get", 5, 1, 0, 0x20, 0, 0x1A, 0x0B);
        sixthCall("global.get", 5, 1, 0, 0x23, 0, 0x1A, 0x0B);
        sixthCall("memory.size", 5, 1, 0, 0x3F, 0x1A, 0x0B);
        sixthCall("a block, and no value", 0, 3, 0, 0x02, 0, 0x0B, 0x0B);
        sixthCall("an argument makes room for one value", 0, 3, 1, 0x41, 3, 0x1A, 0x0B);
        sixthCall("and what takes before it gives needs none", 0, 3, 1, 0x20, 0, 0x45, 0x40, 0x22, 0, 0x28, 0, 0x1A, 0x0B);
        sixthCall("but not for two", 5, 2, 1, 0x41, 3, 0x41, 3, 0x1A, 0x1A, 0x0B);
    }

    /** Five functions, each with 20 values, call the next one; the body is the sixth's, which has one local. */
    private static void sixthCall(String what, int trap, int steps, int parameters, int... body) {
        WasmCore x = new WasmCore();
        for (int f = 0; f < 5; f++) {
            Check.function(x, 0, 0, 0, Check.join(Check.repeat(20, 0x3F), new int[] {0x10, f + 1, 0x0F, 0x0B}));
        }
        Check.function(x, parameters, 1 - parameters, 0, body);
        Check.checked(x);
        x.invoke(0);
        Check.same("10: five times 20 values and a call", x.run(105), 105);
        Check.same("10: the stack of the sixth call", x.look(3), 100 - parameters);
        x.run(steps);
        Check.same("10: " + what + " on a full stack", x.look(1), trap);
        Check.same("10: " + what + ", the status", x.look(0), trap == 0 ? 2 : 4);
        x.run(500);
        Check.same("10: " + what + ", at last", x.look(0), trap == 0 ? 3 : 4);
    }

    private static void selectDropAndLocals() {
        WasmCore x = Check.checked(Check.single(3, 0, 1, 0x20, 0, 0x20, 1, 0x20, 2, 0x1B, 0x0B));
        Check.same("10: select of 1", Check.resultOf(x, 0, 10, 20, 1), 10);
        Check.same("10: select of 0", Check.resultOf(x, 0, 10, 20, 0), 20);
        Check.same("10: select of -1", Check.resultOf(x, 0, 10, 20, -1), 10);
        WasmCore y = Check.checked(Check.single(0, 0, 1, 0x41, 1, 0x41, 2, 0x1A, 0x0B));
        Check.same("10: drop takes the top", Check.resultOf(y, 0), 1);
        // local.set takes, local.tee leaves: get 0, tee 1, set 2, get 1, get 2, sub
        WasmCore z = Check.checked(Check.single(1, 2, 1, 0x20, 0, 0x22, 1, 0x41, 1, 0x6A, 0x21, 2,
                0x20, 1, 0x20, 2, 0x6B, 0x0B));
        Check.invoke(z, 0, 8);
        z.run(2);
        Check.same("10: local.tee leaves its value", z.look(3), 1);
        Check.same("10: local.tee sets", z.value(1, 1), 8);
        z.run(3);
        Check.same("10: local.set takes its value", z.look(3), 0);
        Check.same("10: local.set sets", z.value(1, 2), 9);
        z.run(500);
        Check.same("10: 8 - 9", z.result(), -1);
    }

    private static void globals() {
        WasmCore x = Check.checked(Check.single(1, 0, 1, 0x23, 3, 0x20, 0, 0x6A, 0x24, 3, 0x23, 3, 0x0B));
        Check.same("10: a global is 0 at first", Check.resultOf(x, 0, 5), 5);
        Check.same("10: and stays from run to run", Check.resultOf(x, 0, 6), 11);
        Check.same("14: from outside", x.value(2, 3), 11);
        for (int k = 0; k < 3; k++) {
            Check.same("10: the others are 0", x.value(2, k), 0);
        }
    }
}
