import java.util.ArrayList;
import java.util.List;

/** The boundary cases of a run (promises 8 to 12, and A RUN among the Terms), each sentence with a test of its own. */
public final class RunLimitsTest {
    private static final int LEAST = Integer.MIN_VALUE;
    private static final int MOST = Integer.MAX_VALUE;
    private static final String STATE = "IllegalStateException";
    private static final String INDEX = "IndexOutOfBoundsException";
    private static final String ARGUMENT = "IllegalArgumentException";
    private static final int[] EDGES = {0, 1, -1, 2, -2, LEAST, LEAST + 1, MOST, MOST - 1};

    public static void main(String[] args) {
        fourArguments();
        everyIntIsAnArgument();
        invokeOfEachFunction();
        invokeWithEachNumberOfArguments();
        invokeUsesUpTheArguments();
        invokeInEachStatus();
        fuelOf0To500();
        fuelUpToTheLastStep();
        stopWhileItRuns();
        resultWhenItIsDone();
        resultOf0IfThereIsNone();
        aHundredValues();
        aHundredValuesByEachInstruction();
        whatNeedsNoRoom();
        sixCalls();
        sixCallsAgain();
        theSeventhCallBeforeTheRoom();
        eightLocalsInSixCalls();
        conditions();
        tableIndexes();
        shiftsByTheLowestFiveBits();
        wrapAround();
        divisions();
        trapsChangeNothingElse();
        Check.finish("RunLimitsTest");
    }

    private static int[] row(int... words) {
        return words;
    }

    private static WasmCore one(int parameters, int locals, int results, int[]... parts) {
        return Check.checked(Check.fed(new WasmCore(), parameters, locals, results, Check.join(parts)));
    }

    /** "how many there are; NONE if there are 4". */
    private static void fourArguments() {
        WasmCore x = new WasmCore();
        for (int i = 1; i <= 4; i++) {
            Check.same("8: argument " + i, x.argument(i), i);
        }
        Check.same("8: a fifth", x.argument(5), -1);
        for (State state : State.ALL) {
            for (int waiting = state.waiting(); waiting <= 4; waiting++) {
                int count = waiting;
                Seen.Story story = y -> {
                    state.story().tell(y);
                    for (int i = state.waiting(); i < count; i++) {
                        y.argument(i);
                    }
                };
                String what = "8: " + state.name() + " with " + waiting + " arguments";
                if (waiting == 4) {
                    Seen.refused(what, "-1", story, y -> y.argument(77));
                } else {
                    Check.sameText(what, Seen.answer(Seen.told(story), y -> y.argument(77)),
                            Integer.toString(waiting + 1));
                }
            }
        }
    }

    /** "One more argument for the next run": from the least int to the greatest. */
    private static void everyIntIsAnArgument() {
        for (int v : EDGES) {
            WasmCore x = one(4, 0, 1, row(0x20, 3, 0x0B));
            Check.same("8: argument " + v, Check.resultOf(x, 0, 1, 2, 3, v), v);
            WasmCore y = one(1, 0, 1, row(0x20, 0, 0x0B));
            Check.same("8: the only argument " + v, Check.resultOf(y, 0, v), v);
        }
    }

    /** "IndexOutOfBoundsException if there is no such function", with one function and with six. */
    private static void invokeOfEachFunction() {
        for (int count = 1; count <= 6; count++) {
            int functions = count;
            Seen.Story story = x -> {
                for (int f = 0; f < functions; f++) {
                    Check.fed(x, 0, 0, 1, 0x41, 40 + f, 0x0B);
                }
                x.validate();
            };
            for (int f = 0; f < count; f++) {
                Check.same("9: function " + f + " of " + count, Check.resultOf(Seen.told(story), f), 40 + f);
            }
            for (int f : new int[] {-1, count, count + 1, LEAST, MOST}) {
                Seen.refused("9: invoke(" + f + ") of " + count, INDEX, story, x -> Seen.invoked(x, f));
            }
        }
        // a function of the module before clear() is not there
        Seen.refused("9: invoke(1) behind clear()", INDEX, x -> {
            State.ready(x);
            x.clear();
            Check.fed(x, 0, 0, 0, 0x0B);
            x.validate();
        }, x -> Seen.invoked(x, 1));
    }

    /** "IllegalArgumentException if the number of arguments is not that of its parameters". */
    private static void invokeWithEachNumberOfArguments() {
        for (int p = 0; p <= 4; p++) {
            for (int given = 0; given <= 4; given++) {
                int parameters = p;
                int arguments = given;
                Seen.Story story = x -> {
                    Check.fed(x, parameters, 4, 0, 0x01, 0x0B);
                    x.validate();
                    for (int i = 0; i < arguments; i++) {
                        x.argument(100 + i);
                    }
                };
                if (p != given) {
                    Seen.refused("9: " + p + " parameters, " + given + " arguments", ARGUMENT, story,
                            x -> Seen.invoked(x, 0));
                    continue;
                }
                WasmCore x = Seen.told(story);
                x.invoke(0);
                Check.same("9: " + p + " parameters, as many arguments", x.look(0), 2);
                for (int k = 0; k < p + 4; k++) {
                    Check.same("9: local " + k, x.value(1, k), k < p ? 100 + k : 0);
                }
                Check.same("9: they are not on the stack", x.look(3), 0);
            }
        }
    }

    /** "with the arguments, which are used up". */
    private static void invokeUsesUpTheArguments() {
        for (int p = 0; p <= 4; p++) {
            WasmCore x = one(p, 0, 0, row(0x01, 0x0B));
            Check.invoke(x, 0, new int[p]);
            for (int i = 1; i <= 4; i++) {
                Check.same("9: none waits behind invoke with " + p, x.argument(i), i);
            }
            Check.same("9: four wait", x.argument(5), -1);
        }
        // the arguments of the run before are not those of the next one
        WasmCore y = one(2, 0, 1, row(0x20, 0, 0x20, 1, 0x6B, 0x0B));
        Check.same("9: 50 - 8", Check.resultOf(y, 0, 50, 8), 42);
        Check.sameText("9: none is left", Seen.answer(y, x -> Seen.invoked(x, 0)), ARGUMENT);
        Check.same("9: 3 - 4", Check.resultOf(y, 0, 3, 4), -1);
    }

    /** "IllegalStateException if it is OPEN or RUNNING"; else it is RUNNING from the beginning. */
    private static void invokeInEachStatus() {
        for (State state : State.ALL) {
            WasmCore x = Seen.told(state.story());
            if (state.status() == State.OPEN || state.status() == State.RUNNING) {
                Check.sameText("9: " + state.name(), Seen.answer(x, y -> Seen.invoked(y, 0)), STATE);
                continue;
            }
            for (int i = state.waiting(); i < 4; i++) {
                x.argument(0);
            }
            x.invoke(0);
            int[] due = {2, 0, 0, 0, 1, state.pages(), state.words()};
            for (int which = 0; which < due.length; which++) {
                Check.same("9: " + state.name() + ", look(" + which + ")", x.look(which), due[which]);
            }
            Check.sameText("9: nothing is on the stack", Seen.answer(x, y -> y.value(0, 0)), INDEX);
            Check.same("9: the last local", x.value(1, 3), state.waiting() == 4 ? 28 : 0);
            Check.sameText("9: no local behind it", Seen.answer(x, y -> y.value(1, 4)), INDEX);
        }
    }

    /** "Up to fuel steps, 0 .. 500 .. NONE for any other fuel". */
    private static void fuelOf0To500() {
        int[] forEver = {0x03, 0, 0x0C, 0, 0x0B, 0x0B};
        for (int fuel : new int[] {0, 1, 2, 499, 500}) {
            WasmCore x = one(0, 0, 0, forEver);
            x.invoke(0);
            Check.same("10: run(" + fuel + ")", x.run(fuel), fuel);
            Check.same("10: the next word", x.look(2), fuel == 0 ? 0 : 2);
            Check.same("10: it goes on", x.look(0), 2);
        }
        Seen.Story story = x -> {
            Check.fed(x, 0, 0, 0, forEver);
            x.validate();
            x.invoke(0);
        };
        for (int fuel : new int[] {-1, 501, -500, LEAST, MOST}) {
            Seen.refused("10: run(" + fuel + ")", "-1", story, x -> x.run(fuel));
        }
        // any other fuel is NONE whatever the status
        for (State state : State.ALL) {
            for (int fuel : new int[] {-1, 501}) {
                Check.sameText("10: run(" + fuel + "), " + state.name(),
                        Seen.answer(Seen.told(state.story()), x -> x.run(fuel)), "-1");
            }
            if (state.status() != State.RUNNING) {
                Check.sameText("10: run(500), " + state.name(),
                        Seen.answer(Seen.told(state.story()), x -> x.run(500)), "0");
            }
        }
        // no step is lost or done twice between one run(..) and the next
        WasmCore y = one(0, 0, 0, Check.repeat(239, 0x01), row(0x0B));
        y.invoke(0);
        Check.same("10: 100 steps", y.run(100), 100);
        Check.same("10: run(501) does none", y.run(501), -1);
        Check.same("10: run(0) does none", y.run(0), 0);
        Check.same("10: 100 steps more", y.run(100), 100);
        Check.same("10: the next word", y.look(2), 200);
        Check.same("10: the last 40", y.run(500), 40);
    }

    /** "while it is RUNNING: how many were done (a trapping one is one)". */
    private static void fuelUpToTheLastStep() {
        for (int nops : new int[] {0, 1, 5}) {
            int steps = nops + 1;
            for (int last : new int[] {0x0B, 0x00, 0x0F}) {
                int status = last == 0x00 ? 4 : 3;
                int[] code = Check.join(Check.repeat(nops, 0x01), last == 0x0B ? row(0x0B) : row(last, 0x0B));
                for (int fuel : new int[] {steps - 1, steps, steps + 1, 500}) {
                    WasmCore x = one(0, 0, 0, code);
                    x.invoke(0);
                    String what = "10: " + steps + " steps to " + last + " with " + fuel;
                    Check.same(what, x.run(fuel), Math.min(steps, fuel));
                    Check.same(what + ", the status", x.look(0), fuel < steps ? 2 : status);
                    Check.same(what + ", the trap", x.look(1), fuel >= steps && status == 4 ? 1 : 0);
                    Check.same(what + ", the rest", x.run(500), fuel < steps ? 1 : 0);
                    Check.same(what + ", the status then", x.look(0), status);
                }
            }
        }
    }

    /** "A run that goes on ends, and it is READY: true; false if it is not RUNNING". */
    private static void stopWhileItRuns() {
        for (State state : State.ALL) {
            WasmCore x = Seen.told(state.story());
            boolean runs = state.status() == State.RUNNING;
            Check.same("11: stop() of " + state.name(), x.stop() ? 1 : 0, runs ? 1 : 0);
            Check.same("11: the status", x.look(0), runs ? 1 : state.status());
            Check.isFalse("11: stop() again", x.stop());
            if (runs) {
                int[] due = {1, 0, -1, 0, 0, state.pages(), state.words()};
                for (int which = 0; which < due.length; which++) {
                    Check.same("11: look(" + which + ") behind stop()", x.look(which), due[which]);
                }
                Check.sameText("11: no result", Seen.answer(x, WasmCore::result), STATE);
                Check.same("11: no step", x.run(500), 0);
                Check.sameText("11: nothing on the stack", Seen.answer(x, y -> y.value(0, 0)), INDEX);
                Check.sameText("11: no local", Seen.answer(x, y -> y.value(1, 0)), INDEX);
                Check.same("11: the arguments that wait", x.argument(1),
                        state.waiting() == 4 ? -1 : state.waiting() + 1);
            }
        }
        // at the last moment, before the last step, and one step too late
        WasmCore y = one(0, 0, 0, row(0x01, 0x0B));
        y.invoke(0);
        y.run(1);
        Check.isTrue("11: before the last step", y.stop());
        y.invoke(0);
        y.run(2);
        Check.isFalse("11: behind the last step", y.stop());
        Check.same("11: DONE", y.look(0), 3);
        y.invoke(0);
        Check.isTrue("11: before the first step", y.stop());
    }

    /** "IllegalStateException if it is not DONE". */
    private static void resultWhenItIsDone() {
        for (State state : State.ALL) {
            String due = state.status() != State.DONE ? STATE : state.name().equals("DONE with a result") ? "53" : "0";
            String got = Seen.answer(Seen.told(state.story()), WasmCore::result);
            Check.sameText("12: result() of " + state.name(), got, due);
        }
        for (int v : EDGES) {
            WasmCore x = one(0, 0, 1, row(0x41, v, 0x0B));
            x.invoke(0);
            x.run(1);
            Check.sameText("12: one step before", Seen.answer(x, WasmCore::result), STATE);
            x.run(1);
            Check.same("12: result " + v, x.result(), v);
            Check.same("12: it stays", x.result(), v);
        }
    }

    /** "0 if it had none", whatever stood on the stack, and whatever the run before gave. */
    private static void resultOf0IfThereIsNone() {
        WasmCore x = Check.fed(new WasmCore(), 0, 0, 1, 0x41, 77, 0x0B);
        Check.fed(x, 0, 0, 0, 0x41, 55, 0x0F, 0x0B);
        Check.fed(x, 0, 0, 0, 0x10, 0, 0x0F, 0x0B);
        Check.checked(x);
        Check.same("12: a result", Check.resultOf(x, 0), 77);
        Check.same("12: none, with a value on the stack", Check.resultOf(x, 1), 0);
        Check.same("12: a result again", Check.resultOf(x, 0), 77);
        Check.same("12: none, with a result of a call", Check.resultOf(x, 2), 0);
    }

    /** "a stack of at most 100 values for all". */
    private static void aHundredValues() {
        WasmCore x = fiveTimes20(Check.join(row(0x41, 1), row(0x1A, 0x0B)));
        Check.same("10: 100 values", x.look(3), 100);
        for (int k = 0; k < 100; k++) {
            Check.same("10: value " + k, x.value(0, k), 1);
        }
        Check.sameText("14: value 100", Seen.answer(x, y -> y.value(0, 100)), INDEX);
        Check.same("10: a value more", x.run(1), 1);
        Check.same("10: TRAPPED", x.look(0), 4);
        Check.same("10: trap 5", x.look(1), 5);
        // with one value less there is room for one, and not for two
        for (int values = 19; values <= 20; values++) {
            WasmCore y = filled(values, 0, 0, row(0x3F, 0x3F, 0x1A, 0x1A, 0x0B));
            Check.same("10: 80 and " + values, y.look(3), 80 + values);
            y.run(1);
            Check.same("10: the value " + (81 + values), y.look(1), values == 19 ? 0 : 5);
            y.run(1);
            Check.same("10: and one more", y.look(1), 5);
        }
    }

    /** Four functions with 20 values each and one with that many call each other; the body is the sixth's. */
    private static WasmCore filled(int values, int parameters, int locals, int[] body) {
        WasmCore x = new WasmCore();
        for (int f = 0; f < 5; f++) {
            int own = f == 4 ? values : 20;
            Check.fed(x, 0, 0, 0, Check.join(Check.repeat(own, 0x3F), row(0x10, f + 1, 0x0F, 0x0B)));
        }
        Check.fed(x, parameters, locals, 0, body);
        Check.checked(x);
        x.invoke(0);
        Check.same("10: up to the sixth call", x.run(85 + values), 85 + values);
        Check.same("10: six calls", x.look(4), 6);
        return x;
    }

    private static WasmCore fiveTimes20(int[] body) {
        return filled(20, 0, 2, body);
    }

    /** "5 a value for which the stack has no room": by each instruction that gives more than it takes. */
    private static void aHundredValuesByEachInstruction() {
        int[][] pushes = {row(0x41, 7), row(0x20, 1), row(0x23, 3), row(0x3F)};
        for (int[] push : pushes) {
            int[] body = Check.join(push, row(0x1A, 0x0B));
            WasmCore room = filled(19, 0, 2, body);
            room.run(1);
            Check.same("10: " + push[0] + " gives the 100th value", room.look(3), 100);
            room.run(500);
            Check.same("10: and the run is done", room.look(0), 3);
            WasmCore full = fiveTimes20(body);
            Check.same("10: " + push[0] + " gives the 101st value", full.run(500), 1);
            Check.same("10: trap 5", full.look(1), 5);
        }
    }

    /** On a full stack, what takes at least as much as it gives has room. */
    private static void whatNeedsNoRoom() {
        int[][] swaps = {row(0x45), row(0x67), row(0x68), row(0x69), row(0x40), row(0x22, 0), row(0x28, 0), row(0x2C, 0),
            row(0x2D, 0), row(0x2E, 0), row(0x2F, 0)};
        List<int[]> bodies = new ArrayList<>();
        // the parameter leaves one place below 100
        for (int[] swap : swaps) {
            bodies.add(Check.join(row(0x20, 0), swap, row(0x1A, 0x0B)));
        }
        bodies.add(row(0x20, 0, 0x1A, 0x20, 0, 0x24, 0, 0x20, 0, 0x21, 0, 0x0B));
        bodies.add(row(0x20, 0, 0x04, 0, 0x05, 0x0B, 0x0B));
        bodies.add(row(0x02, 0, 0x20, 0, 0x0D, 0, 0x0B, 0x0B));
        bodies.add(row(0x02, 1, 0x20, 0, 0x0C, 0, 0x0B, 0x1A, 0x0B));
        bodies.add(row(0x20, 0, 0x0E, 0, 0, 0x0B));
        for (int[] body : bodies) {
            WasmCore x = filled(20, 1, 0, body);
            Check.same("10: one place is free", x.look(3), 99);
            x.run(500);
            Check.same("10: " + body[2] + " on a full stack", x.look(1), 0);
            Check.same("10: DONE", x.look(0), 3);
        }
        // two values on a full stack: add, sub and the others, select of three
        for (int op = 0x46; op <= 0x78; op++) {
            if (op <= 0x4F || op >= 0x6A) {
                WasmCore x = filled(20, 2, 0, row(0x20, 0, 0x20, 1, op, 0x1A, 0x0B));
                x.run(2);
                Check.same("10: full before " + op, x.look(3), 100);
                x.run(1);
                Check.same("10: behind " + op, x.look(3), 99);
            }
        }
        WasmCore y = filled(20, 3, 0, row(0x20, 0, 0x20, 1, 0x20, 2, 0x1B, 0x1A, 0x0B));
        y.run(3);
        Check.same("10: full before select", y.look(3), 100);
        y.run(1);
        Check.same("10: behind select", y.look(3), 98);
        // a call itself puts nothing on the stack: "locals stand elsewhere"
        WasmCore z = filled(20, 0, 4, row(0x00, 0x0B));
        Check.same("10: four locals besides 100 values", z.look(3), 100);
        Check.same("10: the last of them", z.value(1, 3), 0);
    }

    /** "at most 6 CALLS of functions under way"; "6 a seventh call". */
    private static void sixCalls() {
        WasmCore x = one(0, 0, 0, row(0x10, 0, 0x0B));
        x.invoke(0);
        for (int calls = 1; calls <= 6; calls++) {
            Check.same("10: calls under way", x.look(4), calls);
            Check.same("10: RUNNING", x.look(0), 2);
            Check.same("10: a call", x.run(1), 1);
        }
        Check.same("10: the seventh is a trap", x.look(0), 4);
        Check.same("10: trap 6", x.look(1), 6);
        Check.same("10: no call is under way", x.look(4), 0);
        // through six functions: the sixth returns, or calls one more
        for (int last : new int[] {0x01, 0x10}) {
            WasmCore y = new WasmCore();
            for (int f = 0; f < 5; f++) {
                Check.fed(y, 0, 0, 0, 0x10, f + 1, 0x0B);
            }
            Check.fed(y, 0, 0, 0, last == 0x01 ? row(0x01, 0x01, 0x0B) : row(0x10, 0, 0x0B));
            Check.checked(y);
            y.invoke(0);
            Check.same("10: five calls", y.run(5), 5);
            Check.same("10: six are under way", y.look(4), 6);
            Check.same("10: the rest", y.run(500), last == 0x01 ? 8 : 1);
            Check.same("10: the status", y.look(0), last == 0x01 ? 3 : 4);
            Check.same("10: the trap", y.look(1), last == 0x01 ? 0 : 6);
        }
    }

    /** A call that has come back is no longer under way. */
    private static void sixCallsAgain() {
        // function 0 calls a chain of five more, three times
        WasmCore x = Check.fed(new WasmCore(), 0, 0, 0, 0x10, 1, 0x10, 1, 0x10, 1, 0x0B);
        for (int f = 1; f < 5; f++) {
            Check.fed(x, 0, 0, 0, 0x10, f + 1, 0x0B);
        }
        Check.fed(x, 0, 0, 0, 0x0B);
        Check.checked(x);
        for (int round = 0; round < 3; round++) {
            x.invoke(0);
            Check.same("10: three times five calls, and back", x.run(500), 3 * 10 + 1);
            Check.same("10: DONE", x.look(0), 3);
        }
        // a run that was stopped with six calls, and one that trapped, leave none to the next one
        WasmCore y = one(0, 0, 0, row(0x10, 0, 0x0B));
        for (int round = 0; round < 3; round++) {
            y.invoke(0);
            Check.same("10: one call is under way", y.look(4), 1);
            Check.same("10: five more", y.run(5), 5);
            Check.same("10: six", y.look(4), 6);
            if (round == 1) {
                Check.same("10: and a trap", y.run(5), 1);
            } else {
                Check.isTrue("11: stopped", y.stop());
            }
        }
    }

    /** A seventh call on a full stack is trap 6: it needs no room. Arguments on the stack make no difference. */
    private static void theSeventhCallBeforeTheRoom() {
        WasmCore x = fiveTimes20(row(0x10, 5, 0x0B));
        Check.same("10: a seventh call", x.run(500), 1);
        Check.same("10: trap 6", x.look(1), 6);
        WasmCore y = one(4, 0, 0, row(0x20, 0, 0x20, 1, 0x20, 2, 0x20, 3, 0x10, 0, 0x0B));
        Check.invoke(y, 0, 1, 2, 3, 4);
        Check.same("10: six calls with four arguments", y.run(500), 30);
        Check.same("10: trap 6", y.look(1), 6);
    }

    /** "Each call has its locals (arguments, then 0s)": eight each, in six calls. */
    private static void eightLocalsInSixCalls() {
        // each call sets its further locals, then calls itself with arguments that are one higher
        int[] body = {};
        for (int k = 4; k < 8; k++) {
            body = Check.join(body, row(0x41, 70 + k, 0x21, k));
        }
        for (int k = 0; k < 4; k++) {
            body = Check.join(body, row(0x20, k, 0x41, 1, 0x6A));
        }
        WasmCore x = one(4, 4, 0, body, row(0x10, 0, 0x0B));
        Check.invoke(x, 0, 0, 10, 20, 30);
        int before = 0;
        for (int steps = 0; x.look(0) == 2 && before < 6 && steps < 300; steps++) {
            if (x.look(4) > before) {
                before = x.look(4);
                for (int k = 0; k < 8; k++) {
                    Check.same("10: call " + before + ", local " + k, x.value(1, k), k < 4 ? 10 * k + before - 1 : 0);
                }
                Check.sameText("14: no ninth local", Seen.answer(x, y -> y.value(1, 8)), INDEX);
            }
            x.run(1);
        }
        Check.same("10: six calls", before, 6);
        // on the way back each call finds its own again
        WasmCore back = Check.fed(new WasmCore(), 1, 1, 1, 0x20, 0, 0x04, 0, 0x20, 0, 0x21, 1, 0x20, 0, 0x41, 1, 0x6B,
                0x10, 0, 0x24, 0, 0x0B, 0x20, 1, 0x23, 0, 0x41, 10, 0x6C, 0x6A, 0x0B);
        Check.checked(back);
        Check.same("10: locals on the way back", Check.resultOf(back, 0, 5), 12345);
    }

    /** "if takes c .. if c is 0"; "br_if .. goes if it is not 0"; "select .. gives a if c is not 0, else b". */
    private static void conditions() {
        WasmCore branch = one(1, 0, 1, row(0x20, 0, 0x04, 1, 0x41, 1, 0x05, 0x41, 2, 0x0B, 0x0B));
        WasmCore jump = one(1, 0, 1, row(0x02, 0, 0x20, 0, 0x0D, 0, 0x41, 2, 0x0F, 0x0B, 0x41, 1, 0x0B));
        WasmCore choice = one(1, 0, 1, row(0x41, 1, 0x41, 2, 0x20, 0, 0x1B, 0x0B));
        for (int c : new int[] {0, 1, -1, 2, 256, 0x10000, LEAST, MOST}) {
            int due = c == 0 ? 2 : 1;
            Check.same("10: if of " + c, Check.resultOf(branch, 0, c), due);
            Check.same("10: br_if of " + c, Check.resultOf(jump, 0, c), due);
            Check.same("10: select of " + c, Check.resultOf(choice, 0, c), due);
        }
    }

    /** "to label i, or the last one if i, without sign, is n or more", for each n. */
    private static void tableIndexes() {
        for (int n = 0; n <= 7; n++) {
            // label k leads out of k + 1 blocks, and gives 100 + k
            int[] code = Check.join(Check.repeat(n + 1, 0x02, 0), row(0x20, 0, 0x0E, n));
            for (int k = 0; k <= n; k++) {
                code = Check.join(code, row(k));
            }
            for (int k = 0; k <= n; k++) {
                code = Check.join(code, row(0x0B, 0x41, 100 + k, 0x0F));
            }
            WasmCore x = one(1, 0, 1, code, row(0x0B));
            for (int i : new int[] {0, n - 1, n, n + 1, 8, 9, -1, -2, LEAST, LEAST + 1, MOST}) {
                int label = i >= 0 && i < n ? i : n;
                Check.same("10: br_table " + n + " of " + i, Check.resultOf(x, 0, i), 100 + label);
            }
        }
        // nine labels: the eighth of eight blocks, and the body's as the last
        int[] labels = {0, 1, 2, 3, 4, 5, 6, 7, 8};
        int[] code = Check.join(Check.repeat(8, 0x02, 0), row(0x20, 0, 0x0E, 8), labels);
        for (int k = 0; k <= 7; k++) {
            code = Check.join(code, row(0x0B, 0x41, 100 + k, 0x24, 0, 0x0F));
        }
        WasmCore x = one(1, 0, 0, code, row(0x0B));
        for (int i : new int[] {0, 6, 7, 8, 9, -1, LEAST, MOST}) {
            Check.invoke(x, 0, i);
            int steps = x.run(500);
            boolean out = i < 0 || i > 7;
            Check.same("10: br_table 8 of " + i, steps, out ? 10 : 13);
            Check.same("10: what it set", x.value(2, 0), out ? 107 : 100 + i);
        }
    }

    /** "shifts and rotations by the lowest 5 bits". */
    private static void shiftsByTheLowestFiveBits() {
        int v = 0x80000003;
        int[][] due = {
            // by 0, 1, 31
            {0x74, v, 6, LEAST}, {0x75, v, 0xC0000001, -1}, {0x76, v, 0x40000001, 1},
            {0x77, v, 7, 0xC0000001}, {0x78, v, 0xC0000001, 7},
        };
        int[][] by = {{0, 32, 64, -32, LEAST, 0x100, 0x7FFFFFE0}, {1, 33, 65, -31, LEAST + 1, 0x101},
            {31, 63, 95, -1, MOST}};
        for (int[] line : due) {
            WasmCore x = one(2, 0, 1, row(0x20, 0, 0x20, 1, line[0], 0x0B));
            for (int i = 0; i < by.length; i++) {
                for (int b : by[i]) {
                    Check.same("10: " + line[0] + " by " + b, Check.resultOf(x, 0, v, b), line[1 + i]);
                }
            }
        }
    }

    /** "Numbers are as in Java": they wrap round. */
    private static void wrapAround() {
        int[][] due = {
            {0x6A, MOST, 1, LEAST}, {0x6A, LEAST, -1, MOST}, {0x6A, LEAST, LEAST, 0}, {0x6B, LEAST, 1, MOST},
            {0x6B, MOST, -1, LEAST}, {0x6B, 0, LEAST, LEAST}, {0x6C, MOST, 2, -2}, {0x6C, LEAST, -1, LEAST},
            {0x6C, 65536, 65536, 0}, {0x6C, MOST, MOST, 1}, {0x48, LEAST, MOST, 1}, {0x49, LEAST, MOST, 0},
            {0x4A, MOST, LEAST, 1}, {0x4B, MOST, LEAST, 0}, {0x4C, -1, 0, 1}, {0x4D, -1, 0, 0}, {0x4E, 0, -1, 1},
            {0x4F, 0, -1, 0}, {0x48, 5, 5, 0}, {0x49, 5, 5, 0}, {0x4A, 5, 5, 0}, {0x4B, 5, 5, 0}, {0x4C, 5, 5, 1},
            {0x4D, 5, 5, 1}, {0x4E, 5, 5, 1}, {0x4F, 5, 5, 1},
        };
        for (int[] line : due) {
            WasmCore x = one(2, 0, 1, row(0x20, 0, 0x20, 1, line[0], 0x0B));
            Check.same("10: " + line[0] + " of " + line[1] + " and " + line[2],
                    Check.resultOf(x, 0, line[1], line[2]), line[3]);
        }
        int[][] ofOne = {{0x45, 0, 1}, {0x45, 1, 0}, {0x45, LEAST, 0}, {0x67, 0, 32}, {0x67, 1, 31}, {0x67, -1, 0},
            {0x68, 0, 32}, {0x68, LEAST, 31}, {0x68, -1, 0}, {0x69, 0, 0}, {0x69, -1, 32}, {0x69, LEAST, 1}};
        for (int[] line : ofOne) {
            WasmCore x = one(1, 0, 1, row(0x20, 0, line[0], 0x0B));
            Check.same("10: " + line[0] + " of " + line[1], Check.resultOf(x, 0, line[1]), line[2]);
        }
    }

    /** "2 a division by 0; 3 div_s of the least int by -1 (rem_s gives 0)". */
    private static void divisions() {
        for (int op : new int[] {0x6D, 0x6E, 0x6F, 0x70}) {
            WasmCore x = one(2, 0, 1, row(0x20, 0, 0x20, 1, op, 0x0B));
            for (int a : EDGES) {
                Check.same("10: " + op + " of " + a + " by 0", Check.trapOf(x, 0, a, 0), 2);
                Check.same("10: " + op + " of " + a + " by 1", Check.trapOf(x, 0, a, 1), 0);
                Check.same("10: its result", x.result(), op == 0x6D || op == 0x6E ? a : 0);
            }
        }
        int[][] due = {
            {0x6D, LEAST, 1, LEAST}, {0x6D, LEAST + 1, -1, MOST}, {0x6D, LEAST, -2, 1 << 30}, {0x6D, LEAST, LEAST, 1},
            {0x6D, MOST, -1, LEAST + 1}, {0x6D, -7, 2, -3}, {0x6D, 7, -2, -3}, {0x6D, -1, LEAST, 0},
            {0x6E, LEAST, -1, 0}, {0x6E, -1, LEAST, 1}, {0x6E, -1, 1, -1}, {0x6E, -1, -1, 1}, {0x6E, -7, 2, 0x7FFFFFFC},
            {0x6F, LEAST, -1, 0}, {0x6F, LEAST, 1, 0}, {0x6F, -7, 2, -1}, {0x6F, 7, -2, 1}, {0x6F, LEAST, MOST, -1},
            {0x70, LEAST, -1, LEAST}, {0x70, -1, LEAST, MOST}, {0x70, -7, 2, 1}, {0x70, -1, -1, 0},
        };
        for (int[] line : due) {
            WasmCore x = one(2, 0, 1, row(0x20, 0, 0x20, 1, line[0], 0x0B));
            Check.same("10: " + line[0] + " of " + line[1] + " by " + line[2],
                    Check.resultOf(x, 0, line[1], line[2]), line[3]);
        }
        WasmCore y = one(2, 0, 1, row(0x20, 0, 0x20, 1, 0x6D, 0x0B));
        Check.same("10: div_s of the least int by -1", Check.trapOf(y, 0, LEAST, -1), 3);
        Check.same("10: the trapping step is one", y.run(500), 0);
    }

    /** "TRAPS end a run"; "A trapping instruction changes nothing else". */
    private static void trapsChangeNothingElse() {
        int[][] bodies = {
            row(0x00), row(0x41, 7, 0x41, 0, 0x6D), row(0x41, 7, 0x41, 0, 0x6E), row(0x41, 7, 0x41, 0, 0x6F),
            row(0x41, 7, 0x41, 0, 0x70), row(0x41, LEAST, 0x41, -1, 0x6D), row(0x41, 125, 0x28, 0), row(0x41, 128, 0x2C, 0),
            row(0x41, 128, 0x2D, 0), row(0x41, 127, 0x2E, 0), row(0x41, 127, 0x2F, 0), row(0x41, 125, 0x41, -1, 0x36, 0),
            row(0x41, 128, 0x41, -1, 0x3A, 0), row(0x41, 127, 0x41, -1, 0x3B, 0), row(0x41, 126, 0x41, -1, 0x36, 0),
            row(0x41, 127, 0x41, -1, 0x36, 0), row(0x41, 0, 0x41, -1, 0x36, 128), row(0x41, -1, 0x41, -1, 0x3A, 1),
        };
        int[] traps = {1, 2, 2, 2, 2, 3, 4, 4, 4, 4, 4, 4, 4, 4, 4, 4, 4, 4};
        for (int i = 0; i < bodies.length; i++) {
            int[] body = Check.join(bodies[i], row(0x0F, 0x0B));
            int steps = 9 + (bodies[i].length > 4 ? 2 : bodies[i].length > 1 ? 1 : 0);
            trapAfter("body " + i, 0, steps, traps[i], x -> Check.fed(x, 0, 1, 0, body));
        }
        trapAfter("a seventh call", 0, 13, 6, x -> Check.fed(x, 0, 0, 0, 0x10, 1, 0x0B));
        int[][] pushes = {row(0x41, 7), row(0x20, 0), row(0x23, 0), row(0x3F)};
        for (int[] push : pushes) {
            trapAfter(push[0] + " on a full stack", 20, 113, 5, x -> {
                for (int f = 1; f <= 4; f++) {
                    Check.fed(x, 0, 0, 0, Check.join(Check.repeat(20, 0x3F), row(0x10, f + 1, 0x0F, 0x0B)));
                }
                Check.fed(x, 0, 1, 0, Check.join(push, row(0x1A, 0x0B)));
            });
        }
    }

    /**
     * Function 0 sets the scene in eight steps, puts values on the stack and calls function 1; the step behind the
     * given ones traps.
     */
    private static void trapAfter(String what, int values, int steps, int trap, Seen.Story functions) {
        Seen.Story story = x -> {
            Check.fed(x, 0, 0, 0, Check.join(
                    row(0x41, 1, 0x40, 0x24, 0, 0x41, 100, 0x41, 200, 0x3A, 0, 0x41, 6, 0x24, 3),
                    Check.repeat(values, 0x3F), row(0x10, 1, 0x0F, 0x0B)));
            functions.tell(x);
            x.poke(3, 33);
            Check.checked(x);
            x.invoke(0);
            x.argument(8);
            x.argument(9);
        };
        WasmCore x = Seen.told(story);
        Check.same("10: " + what + ", up to the trap", x.run(steps), steps);
        Check.same("10: " + what + ", RUNNING", x.look(0), 2);
        String before = onlyWhatStays(x);
        Check.same("10: " + what + ", one step", x.run(500), 1);
        int[] due = {4, trap, -1, 0, 0, 2};
        for (int which = 0; which < due.length; which++) {
            Check.same("13: " + what + ", look(" + which + ")", x.look(which), due[which]);
        }
        Check.sameText("10: " + what + " changes nothing else", onlyWhatStays(x), before);
        Check.sameText("12: " + what + ", no result", Seen.answer(x, WasmCore::result), STATE);
        Check.same("8: " + what + ", the arguments wait", x.argument(1), 3);
    }

    /** The globals, the memory, the words and the fault. */
    private static String onlyWhatStays(WasmCore x) {
        String all = Seen.looks(x);
        return x.look(5) + " " + x.look(6) + " " + x.fault(0) + " " + x.fault(1)
                + all.substring(all.indexOf(" values 2"));
    }
}
