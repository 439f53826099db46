/** Promises 8 (argument), 9 (invoke), 11 (stop) and 12 (result), and how much fuel a run takes (10). */
public final class CallTest {
    private static final Class<IllegalArgumentException> ARGUMENT = IllegalArgumentException.class;
    private static final Class<IllegalStateException> STATE = IllegalStateException.class;
    private static final Class<IndexOutOfBoundsException> INDEX = IndexOutOfBoundsException.class;

    public static void main(String[] args) {
        argumentsAreCounted();
        argumentsWaitInEveryStatus();
        invokeUsesTheArguments();
        invokeRefuses();
        invokeFromEveryStatus();
        fuel();
        stopEndsARun();
        resultOfARun();
        Check.finish("CallTest");
    }

    private static long invokes(WasmCore x, int f) {
        x.invoke(f);
        return 0;
    }

    private static void argumentsAreCounted() {
        WasmCore x = new WasmCore();
        for (int i = 1; i <= 4; i++) {
            Check.same("8: argument " + i, x.argument(-i), i);
        }
        Check.same("8: a fifth argument", x.argument(5), -1);
        Check.same("8: a fifth argument again", x.argument(6), -1);
        // 1000a + 100b + 10c + d tells the order, and that the fifth changed nothing
        Check.function(x, 4, 0, 1, 0x20, 0, 0x41, 1000, 0x6C, 0x20, 1, 0x41, 100, 0x6C, 0x6A,
                0x20, 2, 0x41, 10, 0x6C, 0x6A, 0x20, 3, 0x6A, 0x0B);
        Check.checked(x);
        Check.same("8: all four, in their order", Check.resultOf(x, 0), -1234);
        Check.same("8: they are used up", x.argument(1), 1);
    }

    private static void argumentsWaitInEveryStatus() {
        WasmCore x = new WasmCore();
        Check.same("8: when OPEN", x.argument(10), 1);
        Check.function(x, 2, 0, 1, 0x20, 0, 0x20, 1, 0x6B, 0x0B);
        Check.checked(x);
        Check.same("8: when READY", x.argument(3), 2);
        x.invoke(0);
        Check.same("8: when RUNNING", x.argument(20), 1);
        x.run(500);
        Check.same("9: the run has its own arguments", x.result(), 7);
        Check.same("8: when DONE", x.argument(4), 2);
        x.invoke(0);
        Check.same("8: when RUNNING again", x.argument(1), 1);
        x.stop();
        Check.same("8: stop() leaves the arguments that wait", x.argument(2), 2);
        Check.same("9: the arguments of the next run", Check.resultOf(x, 0), -1);
    }

    private static void invokeUsesTheArguments() {
        WasmCore x = Check.checked(Check.single(2, 2, 1, 0x20, 1, 0x0B));
        Check.invoke(x, 0, 7, 8);
        Check.same("9: RUNNING", x.look(0), 2);
        Check.same("9: nothing is on the stack", x.look(3), 0);
        Check.same("9: one call is under way", x.look(4), 1);
        Check.same("9: the first instruction is next", x.look(2), 0);
        int[] due = {7, 8, 0, 0};
        for (int k = 0; k < 4; k++) {
            Check.same("9: local " + k, x.value(1, k), due[k]);
        }
        Check.fails("9: without arguments behind", STATE, () -> invokes(x, 0));
    }

    private static void invokeRefuses() {
        WasmCore x = new WasmCore();
        Check.fails("9: invoke(0) when OPEN", STATE, () -> invokes(x, 0));
        Check.fails("9: invoke(-1) when OPEN", STATE, () -> invokes(x, -1));
        Check.function(x, 1, 0, 0, 0x0B);
        Check.function(x, 0, 0, 0, 0x0B);
        Check.fails("9: invoke(1) before validate()", STATE, () -> invokes(x, 1));
        Check.checked(x);
        for (int f : new int[] {2, -1, 6, Integer.MIN_VALUE, Integer.MAX_VALUE}) {
            Check.fails("9: invoke(" + f + ")", INDEX, () -> invokes(x, f));
        }
        Check.fails("9: invoke(0) lacks an argument", ARGUMENT, () -> invokes(x, 0));
        x.argument(1);
        Check.fails("9: invoke(1) has one too many", ARGUMENT, () -> invokes(x, 1));
        Check.fails("9: invoke(2) with an argument", INDEX, () -> invokes(x, 2));
        Check.same("9: still READY", x.look(0), 1);
        Check.same("9: a refused invoke uses no argument", x.argument(2), 2);
        Check.fails("9: invoke(0) has one too many", ARGUMENT, () -> invokes(x, 0));
        x.clear();
        Check.function(x, 0, 0, 0, 0x0B);
        Check.checked(x);
        x.invoke(0);
        Check.fails("9: invoke(0) when RUNNING", STATE, () -> invokes(x, 0));
        Check.fails("9: invoke(9) when RUNNING", STATE, () -> invokes(x, 9));
        String before = Check.stateOf(x);
        Check.fails("9: invoke(0) when RUNNING", STATE, () -> invokes(x, 0));
        Check.isTrue("9: a refused invoke changes nothing", before.equals(Check.stateOf(x)));
    }

    private static void invokeFromEveryStatus() {
        WasmCore x = Check.checked(Check.single(1, 1, 1, 0x20, 0, 0x04, 0, 0x00, 0x0B, 0x20, 1, 0x41, 1, 0x22, 1, 0x1A, 0x0B));
        Check.same("9: when READY", Check.resultOf(x, 0, 0), 0);
        Check.same("9: when DONE, locals are 0 again", Check.resultOf(x, 0, 0), 0);
        Check.same("9: a trap", Check.trapOf(x, 0, 1), 1);
        Check.invoke(x, 0, 0);
        Check.same("9: when TRAPPED, it runs", x.look(0), 2);
        Check.same("9: no trap is told of a new run", x.look(1), 0);
        Check.same("9: one call is under way", x.look(4), 1);
        x.run(500);
        Check.same("9: and is done", x.result(), 0);
    }

    private static void fuel() {
        WasmCore x = new WasmCore();
        Check.same("10: run(0) when OPEN", x.run(0), 0);
        Check.same("10: run(500) when OPEN", x.run(500), 0);
        // for ever: loop, br 0
        Check.function(x, 0, 0, 0, 0x03, 0, 0x0C, 0, 0x0B, 0x0B);
        Check.checked(x);
        Check.same("10: run(5) when READY", x.run(5), 0);
        x.invoke(0);
        for (int bad : new int[] {-1, 501, Integer.MIN_VALUE, Integer.MAX_VALUE}) {
            String before = Check.stateOf(x);
            Check.same("10: run(" + bad + ")", x.run(bad), -1);
            Check.isTrue("10: it changes nothing", before.equals(Check.stateOf(x)));
        }
        Check.same("10: run(0)", x.run(0), 0);
        Check.same("10: nothing was done", x.look(2), 0);
        Check.same("10: run(1)", x.run(1), 1);
        Check.same("10: one instruction was done", x.look(2), 2);
        Check.same("10: run(500)", x.run(500), 500);
        Check.same("10: it goes on", x.look(0), 2);
        x.stop();
        Check.same("10: behind stop()", x.run(500), 0);
        WasmCore y = Check.checked(Check.single(0, 0, 0, 0x01, 0x01, 0x0B));
        y.invoke(0);
        Check.same("10: run(2) of 3", y.run(2), 2);
        Check.same("10: it is not done before its end", y.look(0), 2);
        Check.same("10: run(2) of the last 1", y.run(2), 1);
        Check.same("10: DONE", y.look(0), 3);
        Check.same("10: when DONE", y.run(2), 0);
        WasmCore z = Check.checked(Check.single(0, 0, 0, 0x01, 0x00, 0x0B));
        z.invoke(0);
        Check.same("10: a trapping step counts", z.run(9), 2);
        Check.same("10: TRAPPED", z.look(0), 4);
        Check.same("10: when TRAPPED", z.run(9), 0);
    }

    private static void stopEndsARun() {
        WasmCore x = new WasmCore();
        Check.isFalse("11: stop() when OPEN", x.stop());
        Check.function(x, 0, 0, 1, 0x41, 6, 0x24, 0, 0x41, 1, 0x41, 7, 0x3A, 0, 0x41, 5, 0x0B);
        Check.checked(x);
        Check.isFalse("11: stop() when READY", x.stop());
        x.invoke(0);
        x.run(5);
        Check.isTrue("11: stop() when RUNNING", x.stop());
        int[] due = {1, 0, -1, 0, 0};
        for (int which = 0; which < due.length; which++) {
            Check.same("11: look(" + which + ") behind stop()", x.look(which), due[which]);
        }
        Check.same("11: the globals stay", x.value(2, 0), 6);
        Check.same("11: the memory stays", x.peek(1), 7);
        Check.isFalse("11: stop() again", x.stop());
        Check.fails("11: no result behind stop()", STATE, () -> x.result());
        Check.same("11: a new run begins at the beginning", Check.resultOf(x, 0), 5);
        Check.isFalse("11: stop() when DONE", x.stop());
        Check.same("11: still DONE", x.look(0), 3);
        WasmCore y = Check.checked(Check.single(0, 0, 0, 0x00, 0x0B));
        y.invoke(0);
        y.run(1);
        Check.isFalse("11: stop() when TRAPPED", y.stop());
        Check.same("11: still TRAPPED", y.look(0), 4);
    }

    private static void resultOfARun() {
        WasmCore x = Check.single(0, 0, 1, 0x41, -9, 0x0B);
        Check.function(x, 0, 0, 0, 0x01, 0x0B);
        Check.fails("12: when OPEN", STATE, () -> x.result());
        Check.checked(x);
        Check.fails("12: when READY", STATE, () -> x.result());
        x.invoke(0);
        Check.fails("12: when RUNNING", STATE, () -> x.result());
        x.run(1);
        Check.fails("12: when RUNNING, the value on the stack", STATE, () -> x.result());
        x.run(1);
        Check.same("12: when DONE", x.result(), -9);
        Check.same("12: again", x.result(), -9);
        Check.same("12: 0 for a run without one", Check.resultOf(x, 1), 0);
        x.clear();
        Check.fails("12: behind clear()", STATE, () -> x.result());
        WasmCore y = Check.checked(Check.single(0, 0, 1, 0x00, 0x0B));
        y.invoke(0);
        y.run(1);
        Check.fails("12: when TRAPPED", STATE, () -> y.result());
    }
}
