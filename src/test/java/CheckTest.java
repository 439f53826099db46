/** Promises 5 (validate) and 6 (fault): each rule of checking, each ERROR and its PLACE. */
public final class CheckTest {
    private static final Class<IllegalStateException> STATE = IllegalStateException.class;
    private static final int UNREACHABLE = 0x00;
    private static final int NOP = 0x01;
    private static final int BLOCK = 0x02;
    private static final int LOOP = 0x03;
    private static final int IF = 0x04;
    private static final int ELSE = 0x05;
    private static final int END = 0x0B;
    private static final int BR = 0x0C;
    private static final int BR_IF = 0x0D;
    private static final int TABLE = 0x0E;
    private static final int RETURN = 0x0F;
    private static final int CALL = 0x10;
    private static final int DROP = 0x1A;
    private static final int SELECT = 0x1B;
    private static final int GET = 0x20;
    private static final int CONST = 0x41;
    private static final int EQZ = 0x45;
    private static final int ADD = 0x6A;

    public static void main(String[] args) {
        whenItMayBeCalled();
        theWordsThatAreInstructions();
        whatPlainInstructionsTakeAndGive();
        immediatesThatGoBeyond();
        immediatesThatAreWrong();
        labels();
        popping();
        nesting();
        elseAndEnd();
        unreached();
        tables();
        room();
        theEndOfTheBody();
        calls();
        theFirstErrorCounts();
        anErrorLeavesNoTrace();
        faultStays();
        Check.finish("CheckTest");
    }

    private static int body = 0;

    private static void valid(int parameters, int results, int... words) {
        body++;
        WasmCore x = Check.single(parameters, 0, results, words);
        Check.same("5: body " + body + ", validate()", x.validate(), 0);
        Check.same("5: body " + body + ", status", x.look(0), 1);
        Check.same("6: body " + body + ", fault(0)", x.fault(0), -1);
        Check.same("6: body " + body + ", fault(1)", x.fault(1), -1);
    }

    private static void faulty(int error, int place, int parameters, int results, int... words) {
        body++;
        WasmCore x = Check.single(parameters, 0, results, words);
        Check.same("5: body " + body + ", validate()", x.validate(), error);
        Check.same("5: body " + body + ", status", x.look(0), 0);
        Check.same("6: body " + body + ", fault(0)", x.fault(0), 0);
        Check.same("6: body " + body + ", fault(1)", x.fault(1), place);
    }

    private static void whenItMayBeCalled() {
        WasmCore x = new WasmCore();
        Check.fails("5: validate() without a function", STATE, () -> x.validate());
        x.word(END);
        Check.fails("5: validate() with words, no function", STATE, () -> x.validate());
        x.declare(0, 0, 0);
        x.word(END);
        Check.fails("5: validate() with words behind the last body", STATE, () -> x.validate());
        x.declare(0, 0, 0);
        Check.checked(x);
        Check.fails("5: validate() when READY", STATE, () -> x.validate());
        x.invoke(0);
        Check.fails("5: validate() when RUNNING", STATE, () -> x.validate());
        x.run(1);
        Check.fails("5: validate() when DONE", STATE, () -> x.validate());
        WasmCore y = Check.single(0, 0, 0, DROP, END);
        Check.same("5: an ERROR", y.validate(), 2);
        Check.same("5: the same ERROR again", y.validate(), 2);
    }

    private static boolean isInstruction(int word) {
        String all = " 0 1 2 3 4 5 b c d e f 10 1a 1b 20 21 22 23 24 28 2c 2d 2e 2f 36 3a 3b 3f 40 41"
                + " 45 46 47 48 49 4a 4b 4c 4d 4e 4f 67 68 69 6a 6b 6c 6d 6e 6f 70 71 72 73 74 75 76 77 78 ";
        return all.contains(" " + Integer.toHexString(word) + " ");
    }

    private static void theWordsThatAreInstructions() {
        for (int word = 0; word < 256; word++) {
            // enough values, and words behind it that no immediate of 0 can go beyond; where nothing is wrong with
            // it, the word is known by this: an unknown one gives ERROR 1 at its own place
            WasmCore x = Check.single(1, 0, 0, CONST, 0, CONST, 0, CONST, 0, word, 0, 0, 0, 0);
            int error = x.validate();
            boolean unknown = error == 1 && x.fault(1) == 6;
            Check.same("5: word " + word + " is an instruction", unknown ? 0 : 1, isInstruction(word) ? 1 : 0);
        }
        for (int word : new int[] {-1, 256, 0x141, 0x10B, Integer.MIN_VALUE, Integer.MAX_VALUE}) {
            faulty(1, 1, 0, 0, NOP, word, END);
        }
    }

    private static final int[] NO_IMMEDIATE = {};
    private static final int[] ZERO = {0};

    /** The instruction is given just what it takes, then one less; what it gives is dropped, then one more. */
    private static void plain(int op, int takes, int gives, int... immediates) {
        int[] full = Check.repeat(takes, CONST, 0);
        int[] all = Check.join(full, new int[] {op}, immediates, Check.repeat(gives, DROP));
        valid(1, 0, Check.join(all, new int[] {END}));
        int width = 1 + immediates.length;
        faulty(2, 2 * takes + width + gives, 1, 0, Check.join(all, new int[] {DROP, END}));
        if (takes > 0) {
            int[] less = Check.repeat(takes - 1, CONST, 0);
            faulty(2, 2 * (takes - 1), 1, 0, Check.join(less, new int[] {op}, immediates, new int[] {END}));
            // what stands below the frame is out of reach
            int[] outside = Check.join(full, new int[] {BLOCK, 0, op}, immediates, new int[] {END, END});
            faulty(2, 2 * takes + 2, 1, 0, outside);
        }
    }

    private static void whatPlainInstructionsTakeAndGive() {
        plain(NOP, 0, 0, NO_IMMEDIATE);
        plain(DROP, 1, 0, NO_IMMEDIATE);
        plain(SELECT, 3, 1, NO_IMMEDIATE);
        plain(GET, 0, 1, ZERO);
        plain(0x21, 1, 0, ZERO);
        plain(0x22, 1, 1, ZERO);
        plain(0x23, 0, 1, ZERO);
        plain(0x24, 1, 0, ZERO);
        for (int load : new int[] {0x28, 0x2C, 0x2D, 0x2E, 0x2F}) {
            plain(load, 1, 1, ZERO);
        }
        for (int store : new int[] {0x36, 0x3A, 0x3B}) {
            plain(store, 2, 0, ZERO);
        }
        plain(0x3F, 0, 1, NO_IMMEDIATE);
        plain(0x40, 1, 1, NO_IMMEDIATE);
        plain(CONST, 0, 1, ZERO);
        for (int unary : new int[] {EQZ, 0x67, 0x68, 0x69}) {
            plain(unary, 1, 1, NO_IMMEDIATE);
        }
        for (int binary = 0x46; binary <= 0x4F; binary++) {
            plain(binary, 2, 1, NO_IMMEDIATE);
        }
        for (int binary = 0x6A; binary <= 0x78; binary++) {
            plain(binary, 2, 1, NO_IMMEDIATE);
        }
    }

    private static void immediatesThatGoBeyond() {
        int[] withOne = {BLOCK, LOOP, IF, BR, BR_IF, TABLE, CALL, GET, 0x21, 0x22, 0x23, 0x24,
            0x28, 0x2C, 0x2D, 0x2E, 0x2F, 0x36, 0x3A, 0x3B, CONST};
        for (int op : withOne) {
            faulty(1, 0, 1, 0, op);
            // the next body's words are no immediates of this one
            WasmCore x = Check.single(1, 0, 0, NOP, op);
            Check.function(x, 0, 0, 0, 0, END);
            Check.same("5: " + op + " at the end of a body", x.validate(), 1);
            Check.same("6: its place", x.fault(1), 1);
        }
        faulty(1, 2, 0, 0, CONST, 0, TABLE, 0);
        faulty(1, 2, 0, 0, CONST, 0, TABLE, 1, 0);
        faulty(1, 2, 0, 0, CONST, 0, TABLE, 3, 0, 0, END);
        faulty(1, 2, 0, 0, CONST, 0, TABLE, 8, 0, 0, 0, 0, 0, 0, 0, 0);
        faulty(1, 2, 0, 0, CONST, 0, TABLE, 2, 99, 99);
        // the end is a label here: nothing is wrong but that no end is left
        faulty(4, 2, 0, 0, CONST, 0, TABLE, 1, 0, END);
    }

    private static void immediatesThatAreWrong() {
        for (int op : new int[] {BLOCK, LOOP, IF}) {
            faulty(5, 0, 0, 0, op, 2, END, END);
            faulty(5, 0, 0, 0, op, -1, END, END);
            faulty(5, 0, 0, 0, op, 0x40, END, END);
        }
        for (int op : new int[] {GET, 0x21, 0x22}) {
            faulty(5, 0, 2, 0, op, 2, END);
            faulty(5, 0, 2, 0, op, -1, END);
            faulty(5, 0, 0, 0, op, 0, END);
            faulty(5, 0, 2, 0, op, Integer.MIN_VALUE, END);
            faulty(5, 0, 2, 0, op, Integer.MAX_VALUE, END);
        }
        for (int op : new int[] {0x23, 0x24}) {
            faulty(5, 0, 0, 0, op, 4, END);
            faulty(5, 0, 0, 0, op, -1, END);
        }
        valid(0, 1, 0x23, 3, END);
        for (int op : new int[] {0x28, 0x2C, 0x2D, 0x2E, 0x2F, 0x36, 0x3A, 0x3B}) {
            faulty(5, 0, 0, 0, op, -1, END);
            faulty(5, 0, 0, 0, op, Integer.MIN_VALUE, END);
        }
        valid(0, 1, CONST, 0, 0x28, Integer.MAX_VALUE, END);
        faulty(5, 0, 0, 0, CALL, 1, END);
        faulty(5, 0, 0, 0, CALL, -1, END);
        faulty(5, 0, 0, 0, CALL, 6, END);
        WasmCore x = Check.single(2, 1, 1, GET, 2, END);
        Check.same("5: the first of the further locals", x.validate(), 0);
        WasmCore y = Check.single(2, 1, 1, GET, 3, END);
        Check.same("5: a local behind the last", y.validate(), 5);
    }

    private static void labels() {
        valid(0, 0, BR, 0, END);
        faulty(4, 0, 0, 0, BR, 1, END);
        faulty(4, 0, 0, 0, BR, -1, END);
        faulty(4, 0, 0, 0, BR, Integer.MIN_VALUE, END);
        faulty(4, 0, 0, 0, BR_IF, 1, END);
        valid(0, 0, BLOCK, 0, BR, 1, END, END);
        faulty(4, 2, 0, 0, BLOCK, 0, BR, 2, END, END);
        // before the value that is not there is asked for
        faulty(4, 0, 0, 1, BR, 1, END);
        // what a label takes: a block's and the body's results, nothing for a loop
        faulty(2, 0, 0, 1, BR, 0, END);
        valid(0, 1, CONST, 5, BR, 0, END);
        faulty(2, 2, 0, 1, BLOCK, 1, BR, 0, END, END);
        valid(0, 1, BLOCK, 1, CONST, 5, BR, 0, END, END);
        valid(0, 1, LOOP, 1, BR, 0, END, END);
        valid(0, 1, LOOP, 1, CONST, 5, CONST, 0, BR_IF, 1, END, END);
        // br_if takes a value and gives it back
        valid(0, 1, CONST, 5, CONST, 0, BR_IF, 0, END);
        faulty(2, 2, 0, 1, CONST, 5, BR_IF, 0, END);
        faulty(2, 0, 0, 0, BR_IF, 0, END);
        // an if and an else take their results too
        valid(0, 1, CONST, 1, IF, 1, CONST, 5, BR, 0, ELSE, CONST, 6, BR, 0, END, END);
        faulty(2, 4, 0, 1, CONST, 1, IF, 1, BR, 0, ELSE, CONST, 6, END, END);
        faulty(2, 7, 0, 1, CONST, 1, IF, 1, CONST, 5, ELSE, BR, 0, END, END);
    }

    private static void popping() {
        faulty(2, 0, 0, 0, DROP, END);
        faulty(2, 0, 0, 0, IF, 0, END, END);
        faulty(2, 2, 0, 1, CONST, 0, ADD, END);
        faulty(2, 0, 0, 1, RETURN, END);
        valid(0, 1, CONST, 1, RETURN, END);
        valid(0, 1, CONST, 1, CONST, 2, RETURN, END);
        // return takes the function's results, from the innermost frame alone
        faulty(2, 4, 0, 1, CONST, 1, BLOCK, 0, RETURN, END, END);
        valid(0, 1, BLOCK, 0, CONST, 1, RETURN, END, UNREACHABLE, END);
    }

    private static void nesting() {
        valid(0, 0, BLOCK, 0, LOOP, 0, CONST, 0, IF, 0, NOP, ELSE, NOP, END, END, END, END);
        faulty(3, 4, 0, 0, BLOCK, 0, CONST, 1, END, DROP, END);
        faulty(2, 2, 0, 0, BLOCK, 1, END, DROP, END);
        faulty(3, 6, 0, 1, BLOCK, 1, CONST, 1, CONST, 2, END, END);
        faulty(3, 4, 0, 1, CONST, 1, CONST, 2, END);
        faulty(3, 2, 0, 0, CONST, 1, END);
        faulty(2, 0, 0, 1, END);
        valid(0, 1, BLOCK, 1, CONST, 1, END, END);
        valid(0, 0, BLOCK, 1, CONST, 1, END, DROP, END);
    }

    private static void elseAndEnd() {
        faulty(3, 0, 0, 0, ELSE, END);
        faulty(3, 2, 0, 0, BLOCK, 0, ELSE, END, END);
        faulty(3, 2, 0, 0, LOOP, 0, ELSE, END, END);
        faulty(3, 5, 0, 0, CONST, 0, IF, 0, ELSE, ELSE, END, END);
        faulty(3, 6, 0, 1, CONST, 0, IF, 1, CONST, 1, END, END);
        faulty(2, 4, 0, 1, CONST, 0, IF, 1, END, END);
        faulty(2, 4, 0, 1, CONST, 0, IF, 1, ELSE, CONST, 1, END, END);
        faulty(3, 6, 0, 0, CONST, 0, IF, 0, CONST, 1, ELSE, END, END);
        faulty(3, 8, 0, 1, CONST, 0, IF, 1, CONST, 1, CONST, 2, ELSE, CONST, 3, END, END);
        faulty(2, 7, 0, 1, CONST, 0, IF, 1, CONST, 1, ELSE, END, END);
        valid(0, 1, CONST, 0, IF, 1, CONST, 1, ELSE, CONST, 2, END, END);
        // the condition is gone at the beginning of the frame
        faulty(2, 4, 0, 0, CONST, 0, IF, 0, DROP, END, END);
        valid(0, 0, CONST, 7, CONST, 0, IF, 0, END, DROP, END);
        // an end that lacks a value is ERROR 2 before it is an if with a result
        faulty(2, 4, 0, 0, CONST, 0, IF, 1, END, DROP, END);
    }

    private static void unreached() {
        valid(0, 1, UNREACHABLE, END);
        valid(0, 0, UNREACHABLE, DROP, DROP, ADD, DROP, END);
        valid(0, 1, UNREACHABLE, ADD, END);
        faulty(3, 4, 0, 0, UNREACHABLE, CONST, 1, NOP, END);
        // LEAVE off takes the height down to the frame's
        valid(0, 0, CONST, 1, CONST, 2, UNREACHABLE, END);
        valid(0, 0, CONST, 1, BR, 0, END);
        valid(0, 1, CONST, 1, CONST, 2, BR, 0, DROP, DROP, END);
        // a frame that begins in unreached code is reached itself
        faulty(2, 3, 0, 0, UNREACHABLE, BLOCK, 0, DROP, END, END);
        // the frame outside of one that was left is still reached
        faulty(2, 4, 0, 0, BLOCK, 0, UNREACHABLE, END, DROP, END);
        valid(0, 0, BLOCK, 1, UNREACHABLE, END, DROP, END);
        // else is reached again
        faulty(2, 6, 0, 0, CONST, 0, IF, 0, UNREACHABLE, ELSE, DROP, END, END);
        valid(0, 0, CONST, 0, IF, 0, UNREACHABLE, DROP, ELSE, END, END);
        // br_if gives in unreached code what it did not take
        faulty(3, 7, 0, 0, BLOCK, 1, BLOCK, 0, UNREACHABLE, BR_IF, 1, END, END, DROP, END);
        valid(0, 1, UNREACHABLE, BR_IF, 0, END);
        valid(0, 0, RETURN, DROP, END);
        valid(0, 0, CONST, 0, TABLE, 0, 0, DROP, END);
        // other instructions' immediates are looked at in unreached code, too
        faulty(5, 1, 0, 0, UNREACHABLE, GET, 0, END);
        faulty(4, 1, 0, 0, UNREACHABLE, BR, 1, END);
        faulty(1, 1, 0, 0, UNREACHABLE, 0x7F, END);
    }

    private static void tables() {
        valid(0, 0, CONST, 0, TABLE, 0, 0, END);
        valid(0, 0, CONST, 0, TABLE, 8, 0, 0, 0, 0, 0, 0, 0, 0, 0, END);
        faulty(5, 2, 0, 0, CONST, 0, TABLE, 9, 0, 0, 0, 0, 0, 0, 0, 0, 0, 0, END);
        faulty(5, 2, 0, 0, CONST, 0, TABLE, -1, END);
        faulty(5, 2, 0, 0, CONST, 0, TABLE, Integer.MIN_VALUE, END);
        // a wrong n counts before the labels that go beyond the body
        faulty(5, 2, 0, 0, CONST, 0, TABLE, 9);
        faulty(5, 2, 0, 0, CONST, 0, TABLE, Integer.MAX_VALUE);
        faulty(4, 2, 0, 0, CONST, 0, TABLE, 0, 1, END);
        faulty(4, 2, 0, 0, CONST, 0, TABLE, 1, 0, 1, END);
        faulty(4, 2, 0, 0, CONST, 0, TABLE, 1, -1, 0, END);
        // before the index is asked for
        faulty(4, 0, 0, 0, TABLE, 0, 1, END);
        faulty(2, 0, 0, 0, TABLE, 0, 0, END);
        faulty(2, 2, 0, 1, CONST, 0, TABLE, 0, 0, END);
        valid(0, 1, CONST, 5, CONST, 0, TABLE, 0, 0, END);
        // labels that take different numbers, first or last among them; before the missing value
        faulty(3, 2, 0, 1, BLOCK, 0, TABLE, 1, 0, 1, END, CONST, 0, END);
        faulty(3, 2, 0, 1, BLOCK, 0, TABLE, 1, 1, 0, END, CONST, 0, END);
        faulty(3, 2, 0, 1, BLOCK, 0, TABLE, 2, 0, 0, 1, END, CONST, 0, END);
        // a loop with a result and a block without one take the same
        valid(0, 1, BLOCK, 0, LOOP, 1, CONST, 0, TABLE, 1, 0, 1, END, RETURN, END, CONST, 0, END);
        // a label that is none counts before labels that take different numbers
        faulty(4, 2, 0, 1, BLOCK, 0, TABLE, 2, 0, 1, 2, END, CONST, 0, END);
    }

    private static void room() {
        int[] twenty = Check.repeat(20, CONST, 0);
        int[] drops = Check.repeat(20, DROP);
        int[] end = {END};
        valid(0, 0, Check.join(twenty, drops, end));
        faulty(6, 40, 0, 0, Check.join(twenty, new int[] {CONST, 0, DROP}, drops, end));
        faulty(6, 40, 0, 0, Check.join(twenty, new int[] {0x3F, DROP}, drops, end));
        // what takes first has room
        valid(0, 0, Check.join(twenty, new int[] {EQZ, 0x40}, drops, end));
        // the height counts from the body's beginning, not from the frame's
        faulty(6, 42, 0, 0, Check.join(twenty, new int[] {BLOCK, 0, CONST, 0, DROP, END}, drops, end));
        // an end pushes the results of its frame
        faulty(6, 43, 0, 0, Check.join(twenty, new int[] {BLOCK, 1, UNREACHABLE, END, DROP}, drops, end));
        // unreached code is no exception
        int[] unreached = Check.join(new int[] {UNREACHABLE}, twenty);
        faulty(6, 41, 0, 0, Check.join(unreached, new int[] {CONST, 0, END}));
        faulty(6, 41, 0, 0, Check.join(unreached, new int[] {0x23, 0, END}));
        // eight frames besides the body's
        int[] eight = Check.repeat(8, BLOCK, 0);
        valid(0, 0, Check.join(eight, Check.repeat(9, END)));
        faulty(6, 16, 0, 0, Check.join(eight, new int[] {LOOP, 0}, Check.repeat(10, END)));
        faulty(6, 16, 0, 0, Check.join(eight, new int[] {BLOCK, 0}, Check.repeat(10, END)));
        faulty(6, 18, 0, 0, Check.join(eight, new int[] {CONST, 0, IF, 0}, Check.repeat(10, END)));
        // if takes its condition first
        faulty(2, 16, 0, 0, Check.join(eight, new int[] {IF, 0}, Check.repeat(10, END)));
        faulty(5, 16, 0, 0, Check.join(eight, new int[] {BLOCK, 2}, Check.repeat(10, END)));
        // frames that have gone do not count, and an else is no new one
        valid(0, 0, Check.join(Check.repeat(9, BLOCK, 0, END), end));
        valid(0, 0, Check.join(Check.repeat(7, BLOCK, 0), new int[] {CONST, 0, IF, 0, ELSE}, Check.repeat(9, END)));
    }

    private static void theEndOfTheBody() {
        valid(0, 0, END);
        faulty(7, 0, 0, 0, END, END);
        faulty(7, 0, 0, 0, END, 0x7F);
        faulty(7, 3, 0, 0, BLOCK, 0, END, END, NOP, END);
        faulty(1, 1, 0, 0, NOP);
        faulty(1, 3, 0, 0, BLOCK, 0, END);
        faulty(1, 4, 0, 0, BLOCK, 0, BLOCK, 0);
        faulty(1, 2, 0, 0, CONST, 1);
        // what is wrong with the end itself counts before its being too early
        faulty(2, 0, 0, 1, END, END);
        faulty(3, 2, 0, 0, CONST, 1, END, END);
        // a number that looks like an end is none
        faulty(1, 2, 0, 0, CONST, END);
        valid(0, 1, CONST, END, END);
    }

    private static void calls() {
        WasmCore x = Check.single(3, 0, 1, GET, 0, END);
        Check.function(x, 0, 0, 1, CONST, 1, CONST, 2, CONST, 3, CALL, 0, END);
        Check.same("5: a call with all parameters", x.validate(), 0);
        WasmCore y = Check.single(3, 0, 1, GET, 0, END);
        Check.function(y, 0, 0, 1, CONST, 1, CONST, 2, CALL, 0, END);
        Check.same("5: a call that lacks a parameter", y.validate(), 2);
        Check.same("6: its function", y.fault(0), 1);
        Check.same("6: its place counts from the first word of the code", y.fault(1), 7);
        WasmCore later = Check.single(0, 0, 0, CALL, 1, END);
        Check.function(later, 0, 0, 0, CALL, 0, END);
        Check.same("5: a call of a later function", later.validate(), 0);
        WasmCore none = Check.single(0, 0, 0, CALL, 0, DROP, END);
        Check.same("5: a call without a result", none.validate(), 2);
        Check.same("6: its place", none.fault(1), 2);
        WasmCore full = Check.single(0, 0, 1, Check.join(Check.repeat(20, CONST, 0), new int[] {CALL, 0, END}));
        Check.same("5: a result that has no room", full.validate(), 6);
        Check.same("6: its place", full.fault(1), 40);
    }

    private static void theFirstErrorCounts() {
        WasmCore x = Check.single(0, 0, 0, END);
        Check.function(x, 0, 0, 0, NOP, DROP, BR, 9, END);
        Check.function(x, 0, 0, 0, 0x7F);
        Check.same("5: the first ERROR of the first faulty function", x.validate(), 2);
        Check.same("6: fault(0)", x.fault(0), 1);
        Check.same("6: fault(1)", x.fault(1), 2);
        Check.same("6: fault(2)", x.fault(2), -1);
        Check.same("6: fault(-1)", x.fault(-1), -1);
        Check.same("6: fault of the least int", x.fault(Integer.MIN_VALUE), -1);
        WasmCore y = Check.single(0, 0, 0, END);
        Check.function(y, 0, 0, 0, NOP);
        Check.function(y, 0, 0, 0, END);
        Check.same("5: an end that is not there", y.validate(), 1);
        Check.same("6: its place is the word behind the body", y.fault(1), 2);
    }

    private static void anErrorLeavesNoTrace() {
        // at the ERROR two frames are open and 18 values are there; the next validate() begins anew with both
        int[] many = Check.repeat(18, CONST, 1);
        int[] drops = Check.repeat(20, DROP);
        WasmCore x = new WasmCore();
        Check.function(x, 0, 0, 1, Check.join(many, new int[] {BLOCK, 0, CALL, 1, END, CONST, 2, CONST, 3}, drops,
                new int[] {BLOCK, 1, CONST, 4, CONST, 5, BR, 0, END, END}));
        Check.same("5: an ERROR in the middle", x.validate(), 5);
        Check.function(x, 0, 0, 0, END);
        Check.same("5: and none the next time", x.validate(), 0);
        Check.same("10: the run is as it should be", Check.resultOf(x, 0), 5);
    }

    private static void faultStays() {
        WasmCore x = Check.single(0, 0, 0, NOP, CALL, 1, END);
        Check.same("5: a function that is not there yet", x.validate(), 5);
        Check.function(x, 0, 0, 0, END);
        Check.same("5: now it is there", x.validate(), 0);
        Check.same("6: fault(0) of the ERROR before", x.fault(0), 0);
        Check.same("6: fault(1) of the ERROR before", x.fault(1), 1);
        x.invoke(0);
        x.run(500);
        Check.same("6: fault(1) behind a run", x.fault(1), 1);
        x.clear();
        Check.same("6: fault(0) behind clear()", x.fault(0), -1);
        Check.same("6: fault(1) behind clear()", x.fault(1), -1);
        WasmCore y = Check.single(0, 0, 0, CALL, 1, CALL, 2, END);
        y.validate();
        Check.function(y, 0, 0, 0, END);
        Check.same("5: the next function is not there", y.validate(), 5);
        Check.same("6: the latest ERROR counts", y.fault(1), 2);
    }
}
