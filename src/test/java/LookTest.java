/** Promises 13 (look) and 14 (value), in every status. */
public final class LookTest {
    private static final Class<IndexOutOfBoundsException> INDEX = IndexOutOfBoundsException.class;
    private static final int[] STRANGE = {-1, 7, 8, Integer.MIN_VALUE, Integer.MAX_VALUE};

    public static void main(String[] args) {
        lookInEveryStatus();
        lookWhileItRuns();
        valuesWhileItRuns();
        valuesWhenNothingRuns();
        lookingChangesNothing();
        Check.finish("LookTest");
    }

    private static void looks(String when, WasmCore x, int... due) {
        for (int which = 0; which < due.length; which++) {
            Check.same("13: " + when + ", look(" + which + ")", x.look(which), due[which]);
        }
        for (int which : STRANGE) {
            Check.same("13: " + when + ", look(" + which + ")", x.look(which), -1);
        }
    }

    private static void lookInEveryStatus() {
        WasmCore x = new WasmCore();
        looks("new", x, 0, 0, -1, 0, 0, 1, 0);
        // 0 get 0, 2 if 0, 4 unreachable, 5 end, 6 const 3, 8 end
        Check.function(x, 1, 0, 1, 0x20, 0, 0x04, 0, 0x00, 0x0B, 0x41, 3, 0x0B);
        looks("OPEN", x, 0, 0, -1, 0, 0, 1, 9);
        Check.checked(x);
        looks("READY", x, 1, 0, -1, 0, 0, 1, 9);
        Check.invoke(x, 0, 1);
        looks("RUNNING", x, 2, 0, 0, 0, 1, 1, 9);
        x.run(500);
        looks("TRAPPED", x, 4, 1, -1, 0, 0, 1, 9);
        Check.invoke(x, 0, 0);
        looks("RUNNING behind a trap", x, 2, 0, 0, 0, 1, 1, 9);
        x.run(1);
        looks("a step later", x, 2, 0, 2, 1, 1, 1, 9);
        x.run(500);
        looks("DONE", x, 3, 0, -1, 0, 0, 1, 9);
        Check.invoke(x, 0, 0);
        x.stop();
        looks("stopped", x, 1, 0, -1, 0, 0, 1, 9);
        WasmCore bad = Check.single(0, 0, 0, 0x1A, 0x0B);
        bad.validate();
        looks("OPEN with an ERROR", bad, 0, 0, -1, 0, 0, 1, 2);
    }

    /** Function 1, at word 10, has two parameters and a further local: get 1, const 40, add, end. */
    private static WasmCore twoFunctions() {
        WasmCore x = Check.single(1, 1, 1, 0x41, 5, 0x41, 6, 0x20, 0, 0x10, 1, 0x6A, 0x0B);
        Check.function(x, 2, 1, 1, 0x20, 1, 0x41, 40, 0x6A, 0x0B);
        return Check.checked(x);
    }

    private static void lookWhileItRuns() {
        WasmCore x = twoFunctions();
        Check.invoke(x, 0, 7);
        int[][] due = {{0, 0, 1}, {2, 1, 1}, {4, 2, 1}, {6, 3, 1}, {10, 1, 2}, {12, 2, 2}, {14, 3, 2}, {15, 2, 2},
            {8, 2, 1}, {9, 1, 1}};
        for (int[] row : due) {
            Check.same("13: the next word", x.look(2), row[0]);
            Check.same("13: the values on the stack at " + row[0], x.look(3), row[1]);
            Check.same("13: the calls at " + row[0], x.look(4), row[2]);
            Check.same("10: a step", x.run(1), 1);
        }
        Check.same("10: 5 + 7 + 40", x.result(), 52);
    }

    private static void valuesWhileItRuns() {
        WasmCore x = twoFunctions();
        Check.invoke(x, 0, 7);
        values("at first, the stack", x, 0);
        values("at first, the locals", x, 1, 7, 0);
        x.run(3);
        values("three steps later, the stack", x, 0, 5, 6, 7);
        values("three steps later, the locals", x, 1, 7, 0);
        x.run(1);
        values("in the call, the stack of all calls", x, 0, 5);
        values("in the call, its own locals", x, 1, 6, 7, 0);
        x.run(2);
        values("in the call, the stack", x, 0, 5, 7, 40);
        values("the globals", x, 2, 0, 0, 0, 0);
        x.run(2);
        values("behind the call, the stack", x, 0, 5, 47);
        values("behind the call, the locals", x, 1, 7, 0);
        strangeKinds(x);
    }

    private static void values(String what, WasmCore x, int which, int... due) {
        for (int k = 0; k < due.length; k++) {
            Check.same("14: " + what + ", value(" + which + ", " + k + ")", x.value(which, k), due[k]);
        }
        for (int k : new int[] {due.length, due.length + 1, 100, -1, Integer.MIN_VALUE, Integer.MAX_VALUE}) {
            Check.fails("14: " + what + ", value(" + which + ", " + k + ")", INDEX, () -> x.value(which, k));
        }
    }

    private static void strangeKinds(WasmCore x) {
        for (int which : new int[] {-1, 3, Integer.MIN_VALUE, Integer.MAX_VALUE}) {
            Check.fails("14: value(" + which + ", 0)", INDEX, () -> x.value(which, 0));
        }
    }

    private static void valuesWhenNothingRuns() {
        WasmCore x = new WasmCore();
        nothingButGlobals("new", x, 0);
        Check.function(x, 1, 1, 1, 0x20, 0, 0x24, 2, 0x20, 0, 0x0B);
        Check.checked(x);
        nothingButGlobals("READY", x, 0);
        Check.invoke(x, 0, 6);
        x.run(500);
        nothingButGlobals("DONE", x, 6);
        Check.invoke(x, 0, 7);
        x.run(3);
        x.stop();
        nothingButGlobals("stopped", x, 7);
        x.clear();
        nothingButGlobals("cleared", x, 0);
        Check.function(x, 1, 0, 0, 0x20, 0, 0x24, 2, 0x41, 4, 0x00, 0x0B);
        Check.checked(x);
        Check.invoke(x, 0, 8);
        x.run(500);
        nothingButGlobals("TRAPPED", x, 8);
    }

    private static void nothingButGlobals(String when, WasmCore x, int global2) {
        values(when + ", the stack", x, 0);
        values(when + ", the locals", x, 1);
        values(when + ", the globals", x, 2, 0, 0, global2, 0);
        strangeKinds(x);
    }

    private static void lookingChangesNothing() {
        WasmCore x = twoFunctions();
        Check.invoke(x, 0, 7);
        x.run(5);
        String before = Check.stateOf(x);
        Check.isTrue("13, 14: looking changes nothing", before.equals(Check.stateOf(x)));
        x.run(500);
        Check.same("10: the run goes on as it would", x.result(), 52);
    }
}
