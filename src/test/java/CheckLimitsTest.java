/** The boundary cases of the check (promise 5 and CHECKING among the Terms), each sentence with a test of its own. */
public final class CheckLimitsTest {
    private static final int UNREACHABLE = 0x00;
    private static final int NOP = 0x01;
    private static final int BLOCK = 0x02;
    private static final int LOOP = 0x03;
    private static final int IF = 0x04;
    private static final int ELSE = 0x05;
    private static final int END = 0x0B;
    private static final int BR = 0x0C;
    private static final int BR_IF = 0x0D;
    private static final int TABLE = 0x0E;
    private static final int RETURN = 0x0F;
    private static final int CALL = 0x10;
    private static final int DROP = 0x1A;
    private static final int SELECT = 0x1B;
    private static final int GET = 0x20;
    private static final int SET = 0x21;
    private static final int TEE = 0x22;
    private static final int GLOBAL_GET = 0x23;
    private static final int GLOBAL_SET = 0x24;
    private static final int SIZE = 0x3F;
    private static final int GROW = 0x40;
    private static final int CONST = 0x41;
    private static final int EQZ = 0x45;
    private static final int ADD = 0x6A;
    private static final int LEAST = Integer.MIN_VALUE;
    private static final int MOST = Integer.MAX_VALUE;
    private static final int[] MEMORY_OPS = {0x28, 0x2C, 0x2D, 0x2E, 0x2F, 0x36, 0x3A, 0x3B};
    private static final int[] LOADS = {0x28, 0x2C, 0x2D, 0x2E, 0x2F};
    private static final int[] FRAMES = {BLOCK, LOOP, IF};

    public static void main(String[] args) {
        wordsNextToInstructions();
        localsOfEachFunction();
        globals();
        functions();
        offsets();
        types();
        labelsOfATable();
        labelsUpToTheBody();
        heightOf20();
        heightOf20WhereNothingIsTaken();
        heightAtTheEndOfAFrame();
        eightFrames();
        poppingDownToTheFrame();
        poppingWhereItIsNotReached();
        immediatesUpToTheLastWord();
        elseOfAnIfAlone();
        heightAtElse();
        heightAtEnd();
        ifWithAResult();
        labelsThatTakeTheSame();
        bodysLastWord();
        whichErrorComesFirst();
        anErrorChangesNothingElse();
        Check.finish("CheckLimitsTest");
    }

    private static int body = 0;

    private static int[] row(int... words) {
        return words;
    }

    private static void right(String what, int parameters, int results, int[]... parts) {
        body++;
        WasmCore x = Check.fed(new WasmCore(), parameters, 0, results, Check.join(parts));
        Check.same("5: " + what + " (" + body + ")", x.validate(), 0);
        Check.same("5: " + what + " (" + body + "), READY", x.look(0), 1);
        Check.same("6: " + what + " (" + body + "), no fault", x.fault(0), -1);
    }

    private static void wrong(String what, int error, int place, int parameters, int results, int[]... parts) {
        body++;
        WasmCore x = Check.fed(new WasmCore(), parameters, 0, results, Check.join(parts));
        Check.same("5: " + what + " (" + body + ")", x.validate(), error);
        Check.same("5: " + what + " (" + body + "), OPEN", x.look(0), 0);
        Check.same("6: " + what + " (" + body + "), the function", x.fault(0), 0);
        Check.same("6: " + what + " (" + body + "), the place", x.fault(1), place);
    }

    /** "one that is none of these .. is ERROR 1": the words on both sides of every row of instructions. */
    private static void wordsNextToInstructions() {
        int[] none = {-1, 0x06, 0x0A, 0x11, 0x19, 0x1C, 0x1F, 0x25, 0x27, 0x29, 0x2B, 0x30, 0x35, 0x37, 0x39, 0x3C, 0x3E,
            0x42, 0x44, 0x50, 0x66, 0x79, 0xFF, 0x100, 0x10B, 0x141, 0x80000041, 0xFFFFFF0B, LEAST, MOST};
        for (int word : none) {
            wrong("word " + word, 1, 1, 0, 0, row(NOP, word, END));
            wrong("word " + word + " where it is not reached", 1, 1, 0, 0, row(UNREACHABLE, word, END));
        }
    }

    /** "a local .. that is not there, is ERROR 5": for each number of parameters and further locals. */
    private static void localsOfEachFunction() {
        for (int p = 0; p <= 4; p++) {
            for (int l = 0; l <= 4; l++) {
                for (int op : new int[] {GET, SET, TEE}) {
                    local(op, p, l, -1, 5);
                    local(op, p, l, p + l, 5);
                    local(op, p, l, LEAST, 5);
                    local(op, p, l, MOST, 5);
                    if (p + l > 0) {
                        local(op, p, l, 0, 0);
                        local(op, p, l, p + l - 1, 0);
                    }
                }
            }
        }
    }

    private static void local(int op, int p, int l, int x, int error) {
        WasmCore w = new WasmCore();
        // the functions on both sides have eight and no locals: those of the body's own function count
        Check.fed(w, 4, 4, 0, END);
        Check.fed(w, p, l, 1, op == GET ? row(NOP, GET, x, END) : op == SET ? row(CONST, 7, SET, x, CONST, 7, END)
                : row(CONST, 7, TEE, x, END));
        Check.fed(w, 0, 0, 0, END);
        String what = "5: " + op + " of local " + x + " of " + p + " + " + l;
        Check.same(what, w.validate(), error);
        Check.same(what + ", the place", w.fault(1), error == 0 ? -1 : op == GET ? 2 : 3);
    }

    /** "GLOBALS are 0 .. 3". */
    private static void globals() {
        for (int x : new int[] {0, 1, 2, 3}) {
            right("global " + x, 0, 0, row(GLOBAL_GET, x, GLOBAL_SET, x, END));
        }
        for (int x : new int[] {-1, 4, 5, 0x100, LEAST, MOST}) {
            wrong("global.get " + x, 5, 0, 0, 1, row(GLOBAL_GET, x, END));
            wrong("global.set " + x, 5, 2, 0, 0, row(CONST, 1, GLOBAL_SET, x, END));
        }
    }

    /** "a .. function that is not there, is ERROR 5", with one function and with six. */
    private static void functions() {
        for (int count = 1; count <= 6; count++) {
            for (int f : new int[] {-1, 0, count - 1, count, 6, LEAST, MOST}) {
                WasmCore x = new WasmCore();
                for (int g = 0; g < count; g++) {
                    Check.fed(x, 0, 0, 0, CALL, f, END);
                }
                boolean there = f >= 0 && f < count;
                Check.same("5: call " + f + " of " + count, x.validate(), there ? 0 : 5);
                Check.same("6: its place", x.fault(1), there ? -1 : 0);
            }
        }
        // a call takes the parameters of the function, 0 .. 4, not one less
        for (int p = 0; p <= 4; p++) {
            for (int given = 0; given <= 4; given++) {
                WasmCore x = Check.fed(new WasmCore(), 0, 0, 0,
                        Check.join(Check.repeat(given, SIZE), row(CALL, 1, RETURN, END)));
                Check.fed(x, p, 0, 0, END);
                Check.same("5: a call of " + p + " with " + given, x.validate(), given < p ? 2 : 0);
                Check.same("6: its place", x.fault(1), given < p ? given : -1);
            }
        }
    }

    /** "an o that is below 0". */
    private static void offsets() {
        for (int op : MEMORY_OPS) {
            boolean store = op >= 0x36;
            int[] before = store ? row(SIZE, SIZE) : row(SIZE);
            int[] behind = store ? row(END) : row(DROP, END);
            for (int o : new int[] {0, 1, 64, 256, MOST}) {
                right(op + " with offset " + o, 0, 0, before, row(op, o), behind);
            }
            for (int o : new int[] {-1, -2, LEAST}) {
                wrong(op + " with offset " + o, 5, before.length, 0, 0, before, row(op, o), behind);
            }
        }
    }

    /** "A type t that is not 0 or 1". */
    private static void types() {
        for (int op : FRAMES) {
            int[] before = op == IF ? row(SIZE) : row();
            right(op + " of type 0", 0, 0, before, row(op, 0, END, END));
            right(op + " of type 1", 0, 0, before, row(op, 1, SIZE), op == IF ? row(ELSE, SIZE) : row(),
                    row(END, DROP, END));
            for (int t : new int[] {-1, 2, 3, 0x40, 0x100, 0x101, LEAST, MOST}) {
                wrong(op + " of type " + t, 5, before.length, 0, 0, before, row(op, t, END, END));
            }
        }
    }

    /** "an n that is not 0 .. 8 .. (an n before it is asked whether the labels go beyond the body)". */
    private static void labelsOfATable() {
        for (int n = 0; n <= 8; n++) {
            int[] labels = new int[n + 1];
            right("br_table " + n, 0, 0, row(SIZE, TABLE, n), labels, row(END));
            // all labels are there, and no end
            wrong("br_table " + n + " at the end of the body", 1, 4 + n, 0, 0, row(SIZE, TABLE, n), labels);
            // one label lacks
            wrong("br_table " + n + " without its last label", 1, 1, 0, 0, row(SIZE, TABLE, n), new int[n]);
        }
        for (int n : new int[] {-1, 9, 10, 0x100, LEAST, MOST}) {
            wrong("br_table " + n, 5, 1, 0, 0, row(SIZE, TABLE, n), new int[12], row(END));
            wrong("br_table " + n + ", no labels", 5, 1, 0, 0, row(SIZE, TABLE, n));
        }
    }

    /** "A label is none if there is no frame l (l can be below 0, too)": with 0 to 8 frames besides the body's. */
    private static void labelsUpToTheBody() {
        for (int depth = 0; depth <= 8; depth++) {
            int[] open = Check.repeat(depth, BLOCK, 0);
            int[] close = Check.repeat(depth + 1, END);
            int at = 2 * depth;
            for (int l : new int[] {0, depth}) {
                right("br " + l + " in " + depth, 0, 0, open, row(BR, l), close);
                right("br_if " + l + " in " + depth, 0, 0, open, row(SIZE, BR_IF, l), close);
                right("br_table to " + l + " in " + depth, 0, 0, open, row(SIZE, TABLE, 1, l, l), close);
            }
            for (int l : new int[] {-1, depth + 1, depth + 2, LEAST, MOST}) {
                wrong("br " + l + " in " + depth, 4, at, 0, 0, open, row(BR, l), close);
                wrong("br_if " + l + " in " + depth, 4, at + 1, 0, 0, open, row(SIZE, BR_IF, l), close);
                for (int k = 0; k <= 8; k++) {
                    int[] labels = new int[9];
                    labels[k] = l;
                    wrong("br_table with label " + k + " " + l + " in " + depth, 4, at + 1, 0, 0,
                            open, row(SIZE, TABLE, 8), labels, close);
                }
            }
        }
        // a frame that has gone is no frame
        wrong("br 1 behind a block", 4, 3, 0, 0, row(BLOCK, 0, END, BR, 1, END));
        wrong("br 1 behind an if", 4, 4, 0, 0, row(SIZE, IF, 0, END, BR, 1, END));
        // an else is the same frame as its if
        right("br 1 in an else", 0, 0, row(SIZE, IF, 0, ELSE, BR, 1, END, END));
        wrong("br 2 in an else", 4, 4, 0, 0, row(SIZE, IF, 0, ELSE, BR, 2, END, END));
    }

    /** "To PUSH k: the height grows by k, at most 20, else ERROR 6": by all that gives a value, at 19 and at 20. */
    private static void heightOf20() {
        int[][] pushes = {row(CONST, 1), row(GET, 0), row(GLOBAL_GET, 3), row(SIZE), row(BLOCK, 1, UNREACHABLE, END)};
        int[] places = {0, 0, 0, 0, 3};
        for (int i = 0; i < pushes.length; i++) {
            right("the 20th value, by " + pushes[i][0], 1, 0, Check.repeat(19, SIZE), pushes[i], row(RETURN, END));
            wrong("the 21st value, by " + pushes[i][0], 6, 20 + places[i], 1, 0,
                    Check.repeat(20, SIZE), pushes[i], row(RETURN, END));
        }
        // a call's result, with and without parameters that make room
        for (int height = 19; height <= 20; height++) {
            for (int p = 0; p <= 4; p++) {
                for (int r = 0; r <= 1; r++) {
                    WasmCore x = Check.fed(new WasmCore(), 0, 0, 0,
                            Check.join(Check.repeat(height, SIZE), row(CALL, 1, RETURN, END)));
                    Check.fed(x, p, 0, r, UNREACHABLE, END);
                    boolean tooHigh = height - p + r > 20;
                    Check.same("5: a call of " + p + ", " + r + " at " + height, x.validate(), tooHigh ? 6 : 0);
                    Check.same("6: its place", x.fault(1), tooHigh ? 20 : -1);
                }
            }
        }
        // parameters and locals are not on the stack
        WasmCore y = Check.fed(new WasmCore(), 4, 4, 0, Check.join(Check.repeat(20, SIZE), row(RETURN, END)));
        Check.same("5: 20 values besides eight locals", y.validate(), 0);
        // what takes as much as it gives needs no room
        int[][] swaps = {row(EQZ), row(GROW), row(TEE, 0), row(0x28, 0), row(0x67), row(ADD), row(SELECT)};
        for (int[] swap : swaps) {
            right(swap[0] + " at 20", 1, 0, Check.repeat(20, SIZE), swap, row(RETURN, END));
        }
        // a frame's values count upon those below it
        for (int below = 0; below <= 20; below++) {
            int[] before = Check.repeat(below, SIZE);
            int[] within = Check.repeat(20 - below, SIZE);
            right("20 in all, " + below + " below a block", 0, 0, before, row(BLOCK, 0), within,
                    row(BR, 0, END, RETURN, END));
            wrong("21 in all, " + below + " below a block", 6, 22, 0, 0, before, row(BLOCK, 0), within,
                    row(SIZE, BR, 0, END, RETURN, END));
        }
    }

    /** In a frame that is not reached POP takes nothing: at 20, all that gives a value is one too many. */
    private static void heightOf20WhereNothingIsTaken() {
        int[] open = Check.join(Check.repeat(20, SIZE), row(BLOCK, 1, UNREACHABLE));
        int[] oneLess = Check.join(Check.repeat(19, SIZE), row(BLOCK, 1, UNREACHABLE));
        int[] close = row(BR, 0, END, RETURN, END);
        int[][] all = {row(CONST, 1), row(GET, 0), row(GLOBAL_GET, 0), row(SIZE), row(TEE, 0), row(GROW), row(SELECT),
            row(EQZ), row(0x67), row(0x68), row(0x69), row(BR_IF, 0)};
        for (int[] one : all) {
            wrong(one[0] + " at 20, not reached", 6, 23, 1, 0, open, one, close);
            right(one[0] + " at 19, not reached", 1, 0, oneLess, one, close);
        }
        for (int load : LOADS) {
            wrong(load + " at 20, not reached", 6, 23, 1, 0, open, row(load, 0), close);
            right(load + " at 19, not reached", 1, 0, oneLess, row(load, 0), close);
        }
        for (int op = 0x46; op <= 0x78; op++) {
            if (op <= 0x4F || op >= 0x6A) {
                wrong(op + " at 20, not reached", 6, 23, 1, 0, open, row(op), close);
                right(op + " at 19, not reached", 1, 0, oneLess, row(op), close);
            }
        }
        // what gives nothing has room
        int[][] none = {row(DROP), row(SET, 0), row(GLOBAL_SET, 0), row(0x36, 0), row(0x3A, 0), row(0x3B, 0), row(NOP),
            row(BR_IF, 1), row(BR, 0), row(RETURN), row(UNREACHABLE), row(TABLE, 0, 0), row(BLOCK, 0, END),
            row(LOOP, 0, END), row(IF, 0, END)};
        int[] closeUnreached = row(UNREACHABLE, END, RETURN, END);
        for (int[] one : none) {
            // the end of block 1 pushes its result: 20 is one too many there, and nowhere before
            wrong(one[0] + " at 20 gives nothing", 6, 24 + one.length, 1, 0, open, one, closeUnreached);
        }
    }

    /** "the frame goes, and its results are PUSHED, if it is not the body's". */
    private static void heightAtTheEndOfAFrame() {
        for (int op : new int[] {BLOCK, LOOP}) {
            right("the end of " + op + " at 19", 0, 0, Check.repeat(19, SIZE), row(op, 1, SIZE, END, RETURN, END));
            wrong("the end of " + op + " at 20, not reached", 6, 23, 0, 0, Check.repeat(20, SIZE),
                    row(op, 1, UNREACHABLE, END, RETURN, END));
            right("the end of " + op + " of type 0 at 20", 0, 0, Check.repeat(20, SIZE), row(op, 0, END, RETURN, END));
        }
        right("the end of an else at 19", 0, 0, Check.repeat(20, SIZE), row(IF, 1, SIZE, ELSE, SIZE, END, RETURN, END));
        // the body's results are not pushed: the height of 20 before them is of no matter
        right("the end of the body", 0, 1, Check.repeat(20, SIZE), row(RETURN, END));
        right("the end of the body with its result", 0, 1, row(SIZE, END));
    }

    /** "not more than 8 frames besides the body's, else ERROR 6": the eighth and the ninth of each kind. */
    private static void eightFrames() {
        for (int outer : FRAMES) {
            int[] one = outer == IF ? row(SIZE, IF, 0) : row(outer, 0);
            for (int last : FRAMES) {
                int[] another = last == IF ? row(SIZE, IF, 0) : row(last, 0);
                right("the eighth frame, " + last, 0, 0, Check.repeat(7, one), another, Check.repeat(9, END));
                int at = 8 * one.length + another.length - 2;
                wrong("the ninth frame, " + last, 6, at, 0, 0, Check.repeat(8, one), another, Check.repeat(10, END));
            }
        }
        int[] eight = Check.repeat(8, BLOCK, 0);
        right("a ninth frame when the eighth has gone", 0, 0, eight, row(END, BLOCK, 0), Check.repeat(9, END));
        right("many frames, one behind the other", 0, 0, Check.repeat(50, BLOCK, 0, END), row(END));
        wrong("a ninth frame where it is not reached", 6, 17, 0, 0, eight, row(UNREACHABLE, BLOCK, 0),
                Check.repeat(10, END));
        // an else is no new frame
        right("an else in the eighth frame", 0, 0, Check.repeat(7, BLOCK, 0), row(SIZE, IF, 0, ELSE),
                Check.repeat(9, END));
        wrong("a ninth frame in an else", 6, 18, 0, 0, Check.repeat(7, BLOCK, 0), row(SIZE, IF, 0, ELSE, LOOP, 0),
                Check.repeat(10, END));
        // each function has frames of its own
        WasmCore x = new WasmCore();
        for (int f = 0; f < 6; f++) {
            Check.fed(x, 0, 0, 0, Check.join(eight, Check.repeat(9, END)));
        }
        Check.same("5: eight frames in each of six functions", x.validate(), 0);
    }

    /** "if the height is that of the innermost frame, it is ERROR 2": with just enough values and with one less. */
    private static void poppingDownToTheFrame() {
        for (int op : FRAMES) {
            int[] open = op == IF ? row(SIZE, SIZE, SIZE, IF, 0) : row(SIZE, SIZE, op, 0);
            right("values of the frame's own in " + op, 0, 0, open, row(SIZE, SIZE, ADD, DROP, END, RETURN, END));
            wrong("a value from below " + op, 2, open.length + 1, 0, 0, open, row(SIZE, ADD, DROP, END, RETURN, END));
            wrong("a value from below " + op + " for drop", 2, open.length, 0, 0, open, row(DROP, END, RETURN, END));
        }
        wrong("a value from below an else", 2, 6, 0, 0, row(SIZE, SIZE, IF, 0, NOP, ELSE, DROP, END, RETURN, END));
        right("if with its condition", 0, 0, row(SIZE, IF, 0, END, END));
        wrong("if without its condition", 2, 0, 0, 0, row(IF, 0, END, END));
        wrong("if with a condition from below", 2, 3, 0, 0, row(SIZE, BLOCK, 0, IF, 0, END, END, DROP, END));
        right("br_if with its condition", 0, 0, row(SIZE, BR_IF, 0, END));
        wrong("br_if without its condition", 2, 0, 0, 0, row(BR_IF, 0, END));
        right("br_if with condition and value", 0, 1, row(SIZE, SIZE, BR_IF, 0, END));
        wrong("br_if with the condition alone", 2, 1, 0, 1, row(SIZE, BR_IF, 0, END));
        right("br_table with index and value", 0, 1, row(SIZE, SIZE, TABLE, 0, 0, END));
        wrong("br_table with the index alone", 2, 1, 0, 1, row(SIZE, TABLE, 0, 0, END));
        wrong("br_table without its index", 2, 0, 0, 0, row(TABLE, 0, 0, END));
        right("br with its value", 0, 1, row(SIZE, BR, 0, END));
        wrong("br without its value", 2, 0, 0, 1, row(BR, 0, END));
        wrong("br with a value from below", 2, 3, 0, 1, row(SIZE, BLOCK, 0, BR, 1, END, END));
        right("return with its value", 0, 1, row(SIZE, RETURN, END));
        wrong("return without its value", 2, 0, 0, 1, row(RETURN, END));
        wrong("return with a value from below", 2, 3, 0, 1, row(SIZE, LOOP, 0, RETURN, END, END));
        wrong("the body's end without its value", 2, 0, 0, 1, row(END));
        wrong("a block's end without its value", 2, 2, 0, 0, row(BLOCK, 1, END, DROP, END));
        wrong("a block's end with a value from below", 2, 3, 0, 0, row(SIZE, BLOCK, 1, END, DROP, DROP, END));
        wrong("a loop's end without its value", 2, 2, 0, 0, row(LOOP, 1, END, DROP, END));
        wrong("an else without the if's value", 2, 3, 0, 0, row(SIZE, IF, 1, ELSE, SIZE, END, DROP, END));
        wrong("an else's end without its value", 2, 5, 0, 0, row(SIZE, IF, 1, SIZE, ELSE, END, DROP, END));
    }

    /** "unless the frame is not reached (then nothing goes)"; "the height becomes that of the innermost frame". */
    private static void poppingWhereItIsNotReached() {
        int[][] leaves = {row(UNREACHABLE), row(BR, 0), row(RETURN), row(SIZE, TABLE, 0, 0)};
        for (int[] leave : leaves) {
            right("nothing goes behind " + leave[0], 0, 0, leave, row(DROP, DROP, ADD, DROP, SELECT, DROP, DROP, END));
            right("what is there goes behind " + leave[0], 0, 0, leave, row(SIZE, SIZE, DROP, DROP, DROP, END));
            right("one is there of two behind " + leave[0], 0, 0, leave, row(SIZE, ADD, DROP, END));
            wrong("what is left is left behind " + leave[0], 3, leave.length + 2, 0, 0, leave, row(SIZE, SIZE, END));
            right("the values before go with " + leave[0], 0, 0, row(SIZE, SIZE, SIZE), leave, row(END));
            // the frame below is still reached, and one that begins anew, too
            int[] inner = leave[0] == BR ? row(BR, 0) : leave;
            wrong("the frame below " + leave[0], 2, 3 + inner.length, 0, 0, row(BLOCK, 0), inner, row(END, DROP, END));
            wrong("a frame that begins behind " + leave[0], 2, leave.length + 2, 0, 0, leave,
                    row(LOOP, 0, DROP, END, END));
            right("the values below the frame stay for " + leave[0], 0, 0, row(SIZE, BLOCK, 0, SIZE), inner,
                    row(DROP, END, DROP, END));
            wrong("not one more of them for " + leave[0], 2, 7 + inner.length, 0, 0, row(SIZE, BLOCK, 0, SIZE), inner,
                    row(DROP, END, DROP, DROP, END));
        }
        // br_if is no leaving
        wrong("behind br_if", 2, 3, 0, 0, row(SIZE, BR_IF, 0, DROP, END));
        // what POP did not find, PUSH gives all the same
        wrong("add gives one", 3, 2, 0, 0, row(UNREACHABLE, ADD, END));
        wrong("br_if gives what its label takes", 3, 5, 0, 1, row(BLOCK, 0, UNREACHABLE, BR_IF, 1, END, SIZE, END));
    }

    /** "whose immediates go beyond the body, is ERROR 1": at the end of the code, and with another body behind. */
    private static void immediatesUpToTheLastWord() {
        int[] withOne = {BLOCK, LOOP, IF, BR, BR_IF, TABLE, CALL, GET, SET, TEE, GLOBAL_GET, GLOBAL_SET, 0x28, 0x2C, 0x2D,
            0x2E, 0x2F, 0x36, 0x3A, 0x3B, CONST};
        for (int op : withOne) {
            wrong(op + " as the last word", 1, 2, 4, 0, row(SIZE, SIZE, op));
            WasmCore x = Check.fed(new WasmCore(), 4, 0, 0, SIZE, SIZE, op);
            Check.fed(x, 0, 0, 0, 0, 0, 0, END);
            Check.same("5: " + op + " as the last word, a body behind", x.validate(), 1);
            Check.same("6: its place", x.fault(1), 2);
            if (op != TABLE) {
                // the immediate is the last word: it is there, and the end is not
                wrong(op + " with its immediate as the last word", 1, 6, 4, 0, row(SIZE, SIZE, SIZE, SIZE, op, 0));
            }
        }
        WasmCore y = Check.fed(new WasmCore(), 0, 0, 0, SIZE, TABLE, 1, 0);
        Check.fed(y, 0, 0, 0, 0, END);
        Check.same("5: the last label in the next body", y.validate(), 1);
        Check.same("6: its place", y.fault(1), 1);
        WasmCore z = Check.fed(new WasmCore(), 0, 0, 0, SIZE, TABLE);
        Check.fed(z, 0, 0, 0, 9, END);
        Check.same("5: n in the next body", z.validate(), 1);
        Check.same("6: its place", z.fault(1), 1);
    }

    /** "else: ERROR 3 if the innermost frame is no if". */
    private static void elseOfAnIfAlone() {
        wrong("else in the body", 3, 0, 0, 0, row(ELSE, END));
        wrong("else in a block", 3, 2, 0, 0, row(BLOCK, 0, ELSE, END, END));
        wrong("else in a loop", 3, 2, 0, 0, row(LOOP, 0, ELSE, END, END));
        wrong("else in an else", 3, 4, 0, 0, row(SIZE, IF, 0, ELSE, ELSE, END, END));
        wrong("else in a block in an if", 3, 5, 0, 0, row(SIZE, IF, 0, BLOCK, 0, ELSE, END, END, END));
        wrong("else behind the if", 3, 4, 0, 0, row(SIZE, IF, 0, END, ELSE, END));
        wrong("else in a body that is not reached", 3, 1, 0, 0, row(UNREACHABLE, ELSE, END));
        // before the result that lacks is asked for
        wrong("else in a block with a result", 3, 2, 0, 0, row(BLOCK, 1, ELSE, END, DROP, END));
        right("else in an if in an else", 0, 0, row(SIZE, IF, 0, ELSE, SIZE, IF, 0, ELSE, END, END, END));
    }

    /** "POP its results; ERROR 3 if the height is not that of its beginning then". */
    private static void heightAtElse() {
        right("no value at the else of type 0", 0, 0, row(SIZE, IF, 0, ELSE, END, END));
        wrong("one value at the else of type 0", 3, 4, 0, 0, row(SIZE, IF, 0, SIZE, ELSE, END, END));
        right("one value at the else of type 1", 0, 1, row(SIZE, IF, 1, SIZE, ELSE, SIZE, END, END));
        wrong("two values at the else of type 1", 3, 5, 0, 1, row(SIZE, IF, 1, SIZE, SIZE, ELSE, SIZE, END, END));
        right("no value at an else that is not reached", 0, 1, row(SIZE, IF, 1, UNREACHABLE, ELSE, SIZE, END, END));
        right("one value at an else that is not reached", 0, 1,
                row(SIZE, IF, 1, UNREACHABLE, SIZE, ELSE, SIZE, END, END));
        wrong("two values at an else that is not reached", 3, 6, 0, 1,
                row(SIZE, IF, 1, UNREACHABLE, SIZE, SIZE, ELSE, SIZE, END, END));
        // "reached" from then on
        wrong("the else is reached", 2, 5, 0, 0, row(SIZE, IF, 0, UNREACHABLE, ELSE, DROP, END, END));
        // the else begins at the height of the if
        right("the else begins without the if's result", 0, 0,
                row(SIZE, SIZE, IF, 1, SIZE, ELSE, SIZE, END, DROP, DROP, END));
    }

    /** "end: POP the results of the innermost frame; ERROR 3 if the height is not that of its beginning then". */
    private static void heightAtEnd() {
        for (int op : new int[] {BLOCK, LOOP}) {
            right("no value at the end of " + op, 0, 0, row(op, 0, END, END));
            wrong("one value at the end of " + op, 3, 3, 0, 0, row(op, 0, SIZE, END, END));
            right("one value at the end of " + op + " of type 1", 0, 1, row(op, 1, SIZE, END, END));
            wrong("two values at the end of " + op + " of type 1", 3, 4, 0, 1, row(op, 1, SIZE, SIZE, END, END));
            right("no value at the end of " + op + ", not reached", 0, 1, row(op, 1, UNREACHABLE, END, END));
            wrong("two values at the end of " + op + ", not reached", 3, 5, 0, 1,
                    row(op, 1, UNREACHABLE, SIZE, SIZE, END, END));
        }
        wrong("one value at the end of an if", 3, 4, 0, 0, row(SIZE, IF, 0, SIZE, END, END));
        wrong("one value at the end of an else", 3, 5, 0, 0, row(SIZE, IF, 0, ELSE, SIZE, END, END));
        wrong("two values at the end of an else of type 1", 3, 7, 0, 1,
                row(SIZE, IF, 1, SIZE, ELSE, SIZE, SIZE, END, END));
        right("no value at the body's end", 0, 0, row(END));
        wrong("one value at the body's end", 3, 1, 0, 0, row(SIZE, END));
        right("one value at the body's end of 1", 0, 1, row(SIZE, END));
        wrong("two values at the body's end of 1", 3, 2, 0, 1, row(SIZE, SIZE, END));
        wrong("two values at the body's end, not reached", 3, 3, 0, 1, row(UNREACHABLE, SIZE, SIZE, END));
    }

    /** "ERROR 3 if it is an if with a result". */
    private static void ifWithAResult() {
        right("an if without a result", 0, 0, row(SIZE, IF, 0, END, END));
        wrong("an if with a result", 3, 4, 0, 1, row(SIZE, IF, 1, SIZE, END, END));
        right("an if with a result and an else", 0, 1, row(SIZE, IF, 1, SIZE, ELSE, SIZE, END, END));
        wrong("an if with a result, not reached", 3, 4, 0, 1, row(SIZE, IF, 1, UNREACHABLE, END, END));
    }

    /** "br_table: ERROR 3 if its labels do not all take the same", at each place of the table. */
    private static void labelsThatTakeTheSame() {
        for (int n = 1; n <= 8; n++) {
            int[] open = row(BLOCK, 1, BLOCK, 0, SIZE, SIZE, TABLE, n);
            int[] close = row(END, SIZE, END, DROP, END);
            right("all labels of " + n + " take 0", 0, 0, open, new int[n + 1], close);
            right("all labels of " + n + " take 1", 0, 0, open, Check.repeat(n + 1, 1), close);
            for (int k = 0; k <= n; k++) {
                int[] labels = new int[n + 1];
                labels[k] = 1;
                wrong("label " + k + " of " + n + " takes 1", 3, 6, 0, 0, open, labels, close);
            }
        }
        // the label of a loop takes 0, whatever its results are
        right("a loop with a result and a block", 0, 0,
                row(BLOCK, 0, LOOP, 1, SIZE, TABLE, 2, 0, 1, 0, END, DROP, END, END));
        wrong("a loop with a result and a block with one", 3, 5, 0, 0,
                row(BLOCK, 1, LOOP, 1, SIZE, TABLE, 1, 0, 1, END, END, DROP, END));
        wrong("labels that differ, not reached", 3, 5, 0, 1,
                row(BLOCK, 0, UNREACHABLE, SIZE, SIZE, TABLE, 1, 0, 1, END, SIZE, END));
    }

    /** "ERROR 7 if the body's frame goes before the body's last word, ERROR 1 if it has not gone at the end". */
    private static void bodysLastWord() {
        right("the end is the last word", 0, 0, row(NOP, END));
        wrong("one word behind the end", 7, 1, 0, 0, row(NOP, END, NOP));
        wrong("two words behind the end", 7, 1, 0, 0, row(NOP, END, NOP, END));
        wrong("an end behind the end", 7, 1, 0, 0, row(NOP, END, END));
        wrong("no instruction behind the end", 7, 1, 0, 0, row(NOP, END, 0x7F));
        wrong("no end", 1, 1, 0, 0, row(NOP));
        wrong("no end of the body", 1, 3, 0, 0, row(BLOCK, 0, END));
        wrong("no end of an else", 1, 5, 0, 0, row(SIZE, IF, 0, ELSE, NOP));
        wrong("no end, not reached", 1, 1, 0, 0, row(UNREACHABLE));
        wrong("no end behind return", 1, 1, 0, 0, row(RETURN));
        wrong("an end that is an immediate", 1, 2, 0, 1, row(CONST, END));
        // in the middle of the code, the next body does not help
        WasmCore x = Check.fed(new WasmCore(), 0, 0, 0, NOP, END);
        Check.fed(x, 0, 0, 0, NOP, NOP);
        Check.fed(x, 0, 0, 0, END);
        Check.same("5: the end in the next body", x.validate(), 1);
        Check.same("6: its function", x.fault(0), 1);
        Check.same("6: its place is the word behind the body", x.fault(1), 4);
    }

    /** Of two ERRORs in one instruction, the one that the document asks for first; of two instructions, the first. */
    private static void whichErrorComesFirst() {
        wrong("1 before 2", 1, 0, 0, 0, row(BR_IF));
        wrong("5 before 2, local", 5, 0, 0, 0, row(SET, 0, END));
        wrong("5 before 2, global", 5, 0, 0, 0, row(GLOBAL_SET, 4, END));
        wrong("5 before 2, offset", 5, 0, 0, 0, row(0x36, -1, END));
        wrong("5 before 2, type", 5, 0, 0, 0, row(IF, 2, END, END));
        wrong("5 before 2, n", 5, 0, 0, 0, row(TABLE, 9, END));
        wrong("5 before 1, n", 5, 0, 0, 0, row(TABLE, 9));
        wrong("5 before 4, n", 5, 0, 0, 0, row(TABLE, 9, 7, 7, 7, 7, 7, 7, 7, 7, 7, 7, END));
        wrong("1 before 4, labels", 1, 0, 0, 0, row(TABLE, 2, 7, 7));
        wrong("4 before 2, br", 4, 0, 0, 1, row(BR, 1, END));
        wrong("4 before 2, br_if", 4, 0, 0, 0, row(BR_IF, 1, END));
        wrong("4 before 2, br_table", 4, 0, 0, 0, row(TABLE, 0, 1, END));
        wrong("4 before 3, br_table", 4, 2, 0, 1, row(BLOCK, 0, TABLE, 2, 0, 1, 9, END, SIZE, END));
        wrong("3 before 2, br_table", 3, 2, 0, 1, row(BLOCK, 0, TABLE, 1, 0, 1, END, SIZE, END));
        int[] eight = Check.repeat(8, BLOCK, 0);
        int[] ends = Check.repeat(10, END);
        wrong("2 before 6, if", 2, 16, 0, 0, eight, row(IF, 0), ends);
        wrong("5 before 6, frames", 5, 16, 0, 0, eight, row(BLOCK, 2), ends);
        wrong("5 before 6, height", 5, 20, 0, 0, Check.repeat(20, SIZE), row(GET, 0, RETURN, END));
        wrong("3 before 2, else", 3, 2, 0, 0, row(BLOCK, 1, ELSE, END, DROP, END));
        wrong("2 before 3, if with a result", 2, 3, 0, 0, row(SIZE, IF, 1, END, DROP, END));
        wrong("2 before 7", 2, 0, 0, 1, row(END, END));
        wrong("3 before 7", 3, 1, 0, 0, row(SIZE, END, END));
        wrong("7 before what comes later", 7, 0, 0, 0, row(END, 0x7F, BR, 9));
        wrong("the first of two instructions", 2, 1, 0, 0, row(NOP, DROP, 0x7F, BR, 9));
        // the first function that has one, whatever the later ones have
        WasmCore x = Check.fed(new WasmCore(), 0, 0, 0, END);
        Check.fed(x, 0, 0, 0, SIZE, NOP, END);
        Check.fed(x, 0, 0, 0, 0x7F);
        Check.same("5: the first function that has an ERROR", x.validate(), 3);
        Check.same("6: its function", x.fault(0), 1);
        Check.same("6: its place", x.fault(1), 3);
    }

    /** validate() that answers an ERROR leaves all but fault() as it was. */
    private static void anErrorChangesNothingElse() {
        int[][] bodies = {row(0x7F), row(DROP, END), row(SIZE, END), row(BR, 1, END), row(GLOBAL_GET, 4, END),
            Check.join(Check.repeat(21, SIZE), row(END)), row(END, END)};
        int[] errors = {1, 2, 3, 4, 5, 6, 7};
        for (int i = 0; i < bodies.length; i++) {
            int[] words = bodies[i];
            Seen.Story before = x -> {
                Check.fed(x, 4, 0, 1, State.MIX);
                Check.fed(x, 0, 0, 0, words);
                x.argument(5);
                x.argument(-6);
                x.poke(9, 10);
            };
            WasmCore x = Seen.told(before);
            String unseen = Seen.looks(x).replace("fault -1 -1", "");
            Check.same("5: an ERROR", x.validate(), errors[i]);
            String fault = "fault 1 " + x.fault(1);
            Check.sameText("5: ERROR " + errors[i] + " changes nothing else", Seen.looks(x).replace(fault, ""), unseen);
            // what comes later is as if it had not been asked before
            WasmCore y = Seen.told(before);
            y.validate();
            Check.sameText("5: ERROR " + errors[i] + ", and on", Seen.goesOn(y), Seen.goesOn(Seen.told(before)));
            WasmCore z = Seen.told(before);
            z.validate();
            Check.sameText("5: ERROR " + errors[i] + ", the arguments", Seen.takesArguments(z),
                    " arguments 3 4 -1 -1 -1");
            int count = x.look(6);
            Check.same("5: a word more can come", x.word(END), count + 1);
        }
    }
}
