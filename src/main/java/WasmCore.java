import java.util.Arrays;

/**
 * Small modules of WebAssembly with 32-bit integers alone: code comes in as words, is checked by the
 * rules of typing, and is then run instruction by instruction.
 */
public final class WasmCore {
    public static final int NONE = -1;

    private static final int OPEN = 0;
    private static final int READY = 1;
    private static final int RUNNING = 2;
    private static final int DONE = 3;
    private static final int TRAPPED = 4;

    private static final int MAX_FEED = 8;
    private static final int MAX_ARGUMENTS = 4;
    private static final int MAX_FUEL = 500;

    private final Code code;
    private final Checker checker;
    private final Memory memory;
    private final Machine machine;
    private final int[] arguments;
    private int argumentCount;
    private int status;
    private int trap;
    private int faultFunction;
    private int faultPlace;

    public WasmCore() {
        Code ownCode = new Code();
        Memory ownMemory = new Memory();
        code = ownCode;
        memory = ownMemory;
        checker = new Checker(ownCode);
        machine = new Machine(ownCode, ownMemory);
        arguments = new int[MAX_ARGUMENTS];
        argumentCount = 0;
        status = OPEN;
        trap = 0;
        faultFunction = NONE;
        faultPlace = NONE;
    }

    public int feed(int n, long words) throws IllegalArgumentException, IllegalStateException {
        if (n < 1 || n > MAX_FEED) {
            throw new IllegalArgumentException("n is not 1 .. 8");
        }
        if (status != OPEN || !code.hasRoomFor(n)) {
            throw new IllegalStateException("not open, or no room for the words");
        }
        for (int left = n - 1; left >= 0; left--) {
            code.append((int) (words >>> (8 * left)) & 255);
        }
        return code.length;
    }

    public int word(int word) throws IllegalStateException {
        if (status != OPEN || !code.hasRoomFor(1)) {
            throw new IllegalStateException("not open, or no room for the word");
        }
        code.append(word);
        return code.length;
    }

    public int declare(int parameters, int locals, int results)
            throws IllegalArgumentException, IllegalStateException {
        if (!Code.isSignature(parameters, locals, results)) {
            throw new IllegalArgumentException("a number of the function is not as said");
        }
        if (status != OPEN || !code.hasRoomForFunction() || !code.hasLooseWords()) {
            throw new IllegalStateException("not open, too many functions, or no word for a body");
        }
        return code.addFunction(parameters, locals, results);
    }

    public int validate() throws IllegalStateException {
        if (status != OPEN || code.functions == 0 || code.hasLooseWords()) {
            throw new IllegalStateException("not open, no function, or words that are no body");
        }
        int error = checker.firstError();
        if (error == 0) {
            status = READY;
        } else {
            faultFunction = checker.function;
            faultPlace = checker.place;
        }
        return error;
    }

    public int fault(int w) {
        if (w == 0) {
            return faultFunction;
        }
        return w == 1 ? faultPlace : NONE;
    }

    public void clear() {
        code.removeAll();
        memory.reset();
        machine.reset();
        argumentCount = 0;
        status = OPEN;
        faultFunction = NONE;
        faultPlace = NONE;
    }

    public int argument(int v) {
        if (argumentCount == MAX_ARGUMENTS) {
            return NONE;
        }
        arguments[argumentCount] = v;
        argumentCount++;
        return argumentCount;
    }

    public void invoke(int f)
            throws IllegalStateException, IndexOutOfBoundsException, IllegalArgumentException {
        if (status == OPEN || status == RUNNING) {
            throw new IllegalStateException("not checked, or a run goes on");
        }
        if (!code.hasFunction(f)) {
            throw new IndexOutOfBoundsException("no such function");
        }
        if (argumentCount != code.parameters[f]) {
            throw new IllegalArgumentException("not as many arguments as parameters");
        }
        machine.begin(f, arguments);
        argumentCount = 0;
        status = RUNNING;
    }

    public int run(int fuel) {
        if (fuel < 0 || fuel > MAX_FUEL) {
            return NONE;
        }
        int steps = 0;
        while (steps < fuel && status == RUNNING) {
            heed(machine.step());
            steps++;
        }
        return steps;
    }

    public boolean stop() {
        if (status != RUNNING) {
            return false;
        }
        status = READY;
        return true;
    }

    public int result() throws IllegalStateException {
        if (status != DONE) {
            throw new IllegalStateException("no run is done");
        }
        return machine.outcome;
    }

    public int look(int which) {
        boolean running = status == RUNNING;
        switch (which) {
            case 0:
                return status;
            case 1:
                return status == TRAPPED ? trap : 0;
            case 2:
                return running ? machine.next : NONE;
            case 3:
                return running ? machine.depth : 0;
            case 4:
                return running ? machine.calls : 0;
            case 5:
                return memory.pages;
            case 6:
                return code.length;
            default:
                return NONE;
        }
    }

    public int value(int which, int k) throws IndexOutOfBoundsException {
        if (k < 0 || k >= countOf(which)) {
            throw new IndexOutOfBoundsException("no such value");
        }
        if (which == 0) {
            return machine.stack[k];
        }
        return which == 1 ? machine.localAt(k) : machine.globals[k];
    }

    public int peek(int a) {
        return memory.holds(a, 1) ? memory.read(a, 1) : NONE;
    }

    public boolean poke(int a, int v) {
        if (status == RUNNING || !memory.holds(a, 1)) {
            return false;
        }
        memory.write(a, v, 1);
        return true;
    }

    private int countOf(int which) {
        if (which == 2) {
            return machine.globals.length;
        }
        if (status != RUNNING) {
            return 0;
        }
        if (which == 0) {
            return machine.depth;
        }
        return which == 1 ? machine.localCount() : 0;
    }

    private void heed(int event) {
        if (event == Machine.FINISHED) {
            status = DONE;
        } else if (event != Machine.GOES_ON) {
            status = TRAPPED;
            trap = event;
        }
    }

    /** The instructions: their words, the immediates behind them, and what the plain ones take and give. */
    private static final class Op {
        static final int UNREACHABLE = 0x00;
        static final int NOP = 0x01;
        static final int BLOCK = 0x02;
        static final int LOOP = 0x03;
        static final int IF = 0x04;
        static final int ELSE = 0x05;
        static final int END = 0x0B;
        static final int BR = 0x0C;
        static final int BR_IF = 0x0D;
        static final int BR_TABLE = 0x0E;
        static final int RETURN = 0x0F;
        static final int CALL = 0x10;
        static final int DROP = 0x1A;
        static final int SELECT = 0x1B;
        static final int LOCAL_GET = 0x20;
        static final int LOCAL_SET = 0x21;
        static final int LOCAL_TEE = 0x22;
        static final int GLOBAL_GET = 0x23;
        static final int GLOBAL_SET = 0x24;
        static final int LOAD = 0x28;
        static final int LOAD8_S = 0x2C;
        static final int LOAD8_U = 0x2D;
        static final int LOAD16_S = 0x2E;
        static final int LOAD16_U = 0x2F;
        static final int STORE = 0x36;
        static final int STORE8 = 0x3A;
        static final int STORE16 = 0x3B;
        static final int MEMORY_SIZE = 0x3F;
        static final int MEMORY_GROW = 0x40;
        static final int CONST = 0x41;
        static final int EQZ = 0x45;
        static final int EQ = 0x46;
        static final int NE = 0x47;
        static final int LT_S = 0x48;
        static final int LT_U = 0x49;
        static final int GT_S = 0x4A;
        static final int GT_U = 0x4B;
        static final int LE_S = 0x4C;
        static final int LE_U = 0x4D;
        static final int GE_S = 0x4E;
        static final int GE_U = 0x4F;
        static final int CLZ = 0x67;
        static final int CTZ = 0x68;
        static final int POPCNT = 0x69;
        static final int ADD = 0x6A;
        static final int SUB = 0x6B;
        static final int MUL = 0x6C;
        static final int DIV_S = 0x6D;
        static final int DIV_U = 0x6E;
        static final int REM_S = 0x6F;
        static final int REM_U = 0x70;
        static final int AND = 0x71;
        static final int OR = 0x72;
        static final int XOR = 0x73;
        static final int SHL = 0x74;
        static final int SHR_S = 0x75;
        static final int SHR_U = 0x76;
        static final int ROTL = 0x77;
        static final int ROTR = 0x78;

        static final int UNKNOWN = -1;
        static final int BARE = 0;
        static final int WITH_TYPE = 1;
        static final int WITH_LABEL = 2;
        static final int WITH_TABLE = 3;
        static final int WITH_FUNCTION = 4;
        static final int WITH_LOCAL = 5;
        static final int WITH_GLOBAL = 6;
        static final int WITH_OFFSET = 7;
        static final int WITH_NUMBER = 8;

        static int shapeOf(int op) {
            switch (op) {
                case UNREACHABLE: case NOP: case ELSE: case END: case RETURN:
                case DROP: case SELECT: case MEMORY_SIZE: case MEMORY_GROW:
                    return BARE;
                case BLOCK: case LOOP: case IF:
                    return WITH_TYPE;
                case BR: case BR_IF:
                    return WITH_LABEL;
                case BR_TABLE:
                    return WITH_TABLE;
                case CALL:
                    return WITH_FUNCTION;
                case LOCAL_GET: case LOCAL_SET: case LOCAL_TEE:
                    return WITH_LOCAL;
                case GLOBAL_GET: case GLOBAL_SET:
                    return WITH_GLOBAL;
                case LOAD: case LOAD8_S: case LOAD8_U: case LOAD16_S: case LOAD16_U:
                case STORE: case STORE8: case STORE16:
                    return WITH_OFFSET;
                case CONST:
                    return WITH_NUMBER;
                default:
                    return isNumeric(op) ? BARE : UNKNOWN;
            }
        }

        static boolean isNumeric(int op) {
            return (op >= EQZ && op <= GE_U) || (op >= CLZ && op <= ROTR);
        }

        static boolean isUnary(int op) {
            return op == EQZ || op == CLZ || op == CTZ || op == POPCNT;
        }

        static boolean isDivision(int op) {
            return op >= DIV_S && op <= REM_U;
        }

        static int takes(int op) {
            switch (op) {
                case DROP: case LOCAL_SET: case LOCAL_TEE: case GLOBAL_SET: case MEMORY_GROW:
                case LOAD: case LOAD8_S: case LOAD8_U: case LOAD16_S: case LOAD16_U:
                    return 1;
                case STORE: case STORE8: case STORE16:
                    return 2;
                case SELECT:
                    return 3;
                default:
                    return isUnary(op) ? 1 : isNumeric(op) ? 2 : 0;
            }
        }

        static int gives(int op) {
            switch (op) {
                case NOP: case DROP: case LOCAL_SET: case GLOBAL_SET:
                case STORE: case STORE8: case STORE16:
                    return 0;
                default:
                    return 1;
            }
        }

        static int bytesOf(int op) {
            switch (op) {
                case LOAD8_S: case LOAD8_U: case STORE8:
                    return 1;
                case LOAD16_S: case LOAD16_U: case STORE16:
                    return 2;
                default:
                    return 4;
            }
        }
    }

    /** The words, the functions they are cut into, and what the check found out about jumps. */
    private static final class Code {
        static final int MAX_WORDS = 240;
        static final int MAX_FUNCTIONS = 6;
        static final int MAX_LOCALS = 4;

        final int[] words = new int[MAX_WORDS];
        int length = 0;
        int functions = 0;
        final int[] bodyEnd = new int[MAX_FUNCTIONS];
        final int[] parameters = new int[MAX_FUNCTIONS];
        /** Of each function, the parameters included. */
        final int[] locals = new int[MAX_FUNCTIONS];
        final int[] results = new int[MAX_FUNCTIONS];

        /** For the place of a block, loop, if or else: the place of its end. */
        final int[] endOf = new int[MAX_WORDS];
        /** For the place of an if: the place of its else, or NONE. */
        final int[] elseOf = new int[MAX_WORDS];
        /** For the place of a block, loop or if: the height at its beginning, counted in its own call. */
        final int[] heightOf = new int[MAX_WORDS];
        /** For the place of a label: the place of the block, loop or if that it means, or NONE for the body. */
        final int[] targetOf = new int[MAX_WORDS];

        static boolean isSignature(int parameters, int locals, int results) {
            return parameters >= 0 && parameters <= MAX_LOCALS
                    && locals >= 0 && locals <= MAX_LOCALS
                    && results >= 0 && results <= 1;
        }

        void removeAll() {
            length = 0;
            functions = 0;
        }

        boolean hasRoomFor(int count) {
            return length + count <= MAX_WORDS;
        }

        void append(int word) {
            words[length] = word;
            length++;
        }

        boolean hasRoomForFunction() {
            return functions < MAX_FUNCTIONS;
        }

        boolean hasLooseWords() {
            return length > bodyStart(functions);
        }

        boolean hasFunction(int f) {
            return f >= 0 && f < functions;
        }

        int addFunction(int parameterCount, int furtherLocals, int resultCount) {
            int f = functions;
            bodyEnd[f] = length;
            parameters[f] = parameterCount;
            locals[f] = parameterCount + furtherLocals;
            results[f] = resultCount;
            functions++;
            return f;
        }

        int bodyStart(int f) {
            return f == 0 ? 0 : bodyEnd[f - 1];
        }

        /** How many words the instruction has whose first word is at the place; its immediates must be there. */
        int sizeAt(int place) {
            int shape = Op.shapeOf(words[place]);
            if (shape == Op.WITH_TABLE) {
                return 3 + words[place + 1];
            }
            return shape == Op.BARE ? 1 : 2;
        }
    }

    /** Checks the bodies by the rules of typing, and notes in the code where its jumps go. */
    private static final class Checker {
        static final int ERROR_FORM = 1;
        static final int ERROR_MISSING_VALUE = 2;
        static final int ERROR_NESTING = 3;
        static final int ERROR_LABEL = 4;
        static final int ERROR_IMMEDIATE = 5;
        static final int ERROR_ROOM = 6;
        static final int ERROR_EARLY_END = 7;

        static final int MAX_HEIGHT = 20;
        static final int MAX_FRAMES = 9;
        static final int MAX_TABLE = 8;
        static final int BODY = -1;

        private final Code code;
        private final int[] kinds = new int[MAX_FRAMES];
        private final int[] frameResults = new int[MAX_FRAMES];
        private final int[] heights = new int[MAX_FRAMES];
        private final boolean[] reached = new boolean[MAX_FRAMES];
        /** The place of the instruction that began the frame; NONE for the body's. */
        private final int[] openers = new int[MAX_FRAMES];
        private int frames = 0;
        private int height = 0;
        private int bodyEnd = 0;
        private int error = 0;
        int function = 0;
        int place = 0;

        Checker(Code code) {
            this.code = code;
        }

        /** The first ERROR, its function and place kept in the fields; 0 if there is none. */
        int firstError() {
            error = 0;
            for (int f = 0; f < code.functions && error == 0; f++) {
                checkBody(f);
            }
            return error;
        }

        private void checkBody(int f) {
            function = f;
            place = code.bodyStart(f);
            bodyEnd = code.bodyEnd[f];
            frames = 0;
            height = 0;
            openFrame(BODY, code.results[f], NONE);
            for (int left = bodyEnd - place; left > 0 && place < bodyEnd; left--) {
                int op = code.words[place];
                checkImmediates(Op.shapeOf(op));
                if (error == 0) {
                    checkTyping(op);
                }
                if (error != 0) {
                    return;
                }
                place += code.sizeAt(place);
            }
            if (frames > 0) {
                fail(ERROR_FORM);
            }
        }

        /** The first failure counts: what is still done for the instruction after it is of no effect. */
        private void fail(int number) {
            if (error == 0) {
                error = number;
            }
        }

        private void checkImmediates(int shape) {
            if (shape == Op.BARE) {
                return;
            }
            if (shape == Op.UNKNOWN || place + 1 >= bodyEnd) {
                fail(ERROR_FORM);
            } else if (shape == Op.WITH_TABLE) {
                checkTable(immediate());
            } else if (shape == Op.WITH_LABEL) {
                checkLabel(place + 1);
            } else if (!isAllowed(shape, immediate())) {
                fail(ERROR_IMMEDIATE);
            }
        }

        private int immediate() {
            return code.words[place + 1];
        }

        private boolean isAllowed(int shape, int number) {
            switch (shape) {
                case Op.WITH_TYPE:
                    return number == 0 || number == 1;
                case Op.WITH_FUNCTION:
                    return code.hasFunction(number);
                case Op.WITH_LOCAL:
                    return number >= 0 && number < code.locals[function];
                case Op.WITH_GLOBAL:
                    return number >= 0 && number < Machine.GLOBALS;
                case Op.WITH_OFFSET:
                    return number >= 0;
                default:
                    return true;
            }
        }

        private void checkTable(int n) {
            if (n < 0 || n > MAX_TABLE) {
                fail(ERROR_IMMEDIATE);
            } else if (place + 2 + n >= bodyEnd) {
                fail(ERROR_FORM);
            } else {
                for (int i = 0; i <= n; i++) {
                    checkLabel(place + 2 + i);
                }
            }
        }

        private void checkLabel(int at) {
            int label = code.words[at];
            if (label < 0 || label >= frames) {
                fail(ERROR_LABEL);
            } else {
                code.targetOf[at] = openers[frames - 1 - label];
            }
        }

        private int takenByLabel(int at) {
            int frame = frames - 1 - code.words[at];
            return kinds[frame] == Op.LOOP ? 0 : frameResults[frame];
        }

        private void checkTyping(int op) {
            switch (op) {
                case Op.UNREACHABLE:
                    leaveOff();
                    break;
                case Op.IF:
                    popValues(1);
                    openFrame(op, immediate(), place);
                    break;
                case Op.BLOCK: case Op.LOOP:
                    openFrame(op, immediate(), place);
                    break;
                case Op.ELSE:
                    checkElse();
                    break;
                case Op.END:
                    checkEnd();
                    break;
                case Op.BR:
                    popValues(takenByLabel(place + 1));
                    leaveOff();
                    break;
                case Op.BR_IF:
                    popValues(1);
                    exchange(takenByLabel(place + 1), takenByLabel(place + 1));
                    break;
                case Op.BR_TABLE:
                    checkTableTyping(immediate());
                    break;
                case Op.RETURN:
                    popValues(code.results[function]);
                    leaveOff();
                    break;
                case Op.CALL:
                    exchange(code.parameters[immediate()], code.results[immediate()]);
                    break;
                default:
                    exchange(Op.takes(op), Op.gives(op));
                    break;
            }
        }

        private void checkElse() {
            int frame = frames - 1;
            if (kinds[frame] != Op.IF) {
                fail(ERROR_NESTING);
                return;
            }
            closeHeight(frame);
            kinds[frame] = Op.ELSE;
            reached[frame] = true;
            code.elseOf[openers[frame]] = place;
        }

        private void checkEnd() {
            int frame = frames - 1;
            closeHeight(frame);
            if (kinds[frame] == Op.IF && frameResults[frame] != 0) {
                fail(ERROR_NESTING);
            }
            if (error != 0) {
                return;
            }
            noteEnd(frame);
            frames--;
            if (kinds[frame] != BODY) {
                pushValues(frameResults[frame]);
            } else if (place != bodyEnd - 1) {
                fail(ERROR_EARLY_END);
            }
        }

        private void closeHeight(int frame) {
            popValues(frameResults[frame]);
            if (height != heights[frame]) {
                fail(ERROR_NESTING);
            }
        }

        private void noteEnd(int frame) {
            int opener = openers[frame];
            if (opener == NONE) {
                return;
            }
            code.endOf[opener] = place;
            if (kinds[frame] == Op.ELSE) {
                code.endOf[code.elseOf[opener]] = place;
            }
        }

        private void checkTableTyping(int n) {
            int taken = takenByLabel(place + 2);
            for (int i = 1; i <= n; i++) {
                if (takenByLabel(place + 2 + i) != taken) {
                    fail(ERROR_NESTING);
                }
            }
            popValues(1);
            popValues(taken);
            leaveOff();
        }

        private void openFrame(int kind, int resultCount, int opener) {
            if (frames == MAX_FRAMES) {
                fail(ERROR_ROOM);
                return;
            }
            kinds[frames] = kind;
            frameResults[frames] = resultCount;
            heights[frames] = height;
            reached[frames] = true;
            openers[frames] = opener;
            frames++;
            if (opener != NONE) {
                code.heightOf[opener] = height;
                code.elseOf[opener] = NONE;
            }
        }

        private void leaveOff() {
            height = heights[frames - 1];
            reached[frames - 1] = false;
        }

        private void exchange(int taken, int given) {
            popValues(taken);
            pushValues(given);
        }

        private void popValues(int count) {
            int frame = frames - 1;
            for (int i = 0; i < count; i++) {
                if (height > heights[frame]) {
                    height--;
                } else if (reached[frame]) {
                    fail(ERROR_MISSING_VALUE);
                }
            }
        }

        private void pushValues(int count) {
            if (height + count > MAX_HEIGHT) {
                fail(ERROR_ROOM);
            } else {
                height += count;
            }
        }
    }

    /** Pages of bytes; a value stands in them with its lowest byte first. */
    private static final class Memory {
        static final int PAGE_BYTES = 64;
        static final int MAX_PAGES = 4;

        private final byte[] bytes = new byte[PAGE_BYTES * MAX_PAGES];
        int pages = 1;

        void reset() {
            Arrays.fill(bytes, (byte) 0);
            pages = 1;
        }

        boolean holds(long place, int count) {
            return place >= 0 && place + count <= pages * PAGE_BYTES;
        }

        int read(int place, int count) {
            int number = 0;
            for (int i = count - 1; i >= 0; i--) {
                number = number << 8 | bytes[place + i] & 255;
            }
            return number;
        }

        void write(int place, int number, int count) {
            for (int i = 0; i < count; i++) {
                bytes[place + i] = (byte) (number >> 8 * i);
            }
        }

        /** The pages before, or -1 if there would be too many. */
        int grow(int more) {
            if (Integer.compareUnsigned(more, MAX_PAGES - pages) > 0) {
                return -1;
            }
            int before = pages;
            pages += more;
            return before;
        }
    }

    /** Runs checked code, an instruction a step: what the check has shown of it is not asked again here. */
    private static final class Machine {
        static final int GLOBALS = 4;
        static final int MAX_DEPTH = 100;
        static final int MAX_CALLS = 6;
        static final int LOCALS_OF_CALL = 2 * Code.MAX_LOCALS;
        static final int LEAST_INT = 1 << 31;

        /** What a step can answer besides the number of a trap. */
        static final int GOES_ON = 0;
        static final int FINISHED = -1;

        static final int TRAP_UNREACHABLE = 1;
        static final int TRAP_DIVISION_BY_ZERO = 2;
        static final int TRAP_QUOTIENT = 3;
        static final int TRAP_MEMORY = 4;
        static final int TRAP_STACK = 5;
        static final int TRAP_CALLS = 6;

        private final Code code;
        private final Memory memory;
        final int[] globals = new int[GLOBALS];
        final int[] stack = new int[MAX_DEPTH];
        int depth = 0;
        int next = 0;
        int outcome = 0;
        int calls = 0;
        private final int[] callFunction = new int[MAX_CALLS];
        private final int[] callReturn = new int[MAX_CALLS];
        /** How deep the stack is below all that the call puts on it. */
        private final int[] callBase = new int[MAX_CALLS];
        private final int[] callLocals = new int[MAX_CALLS * LOCALS_OF_CALL];

        Machine(Code code, Memory memory) {
            this.code = code;
            this.memory = memory;
        }

        void reset() {
            Arrays.fill(globals, 0);
        }

        void begin(int f, int[] arguments) {
            calls = 0;
            depth = code.parameters[f];
            System.arraycopy(arguments, 0, stack, 0, depth);
            enter(f);
        }

        int localCount() {
            return code.locals[callFunction[calls - 1]];
        }

        int localAt(int x) {
            return callLocals[localPlace(x)];
        }

        int step() {
            int at = next;
            int op = code.words[at];
            next = at + code.sizeAt(at);
            if (op <= Op.CALL) {
                return control(op, at);
            }
            if (op <= Op.GLOBAL_SET) {
                return move(op, at);
            }
            if (op <= Op.MEMORY_GROW) {
                return useMemory(op, at);
            }
            return op == Op.CONST ? push(code.words[at + 1]) : calculate(op);
        }

        private int control(int op, int at) {
            switch (op) {
                case Op.UNREACHABLE:
                    return TRAP_UNREACHABLE;
                case Op.IF:
                    return pop() != 0 ? GOES_ON : passOver(at);
                case Op.ELSE:
                    next = code.endOf[at];
                    return GOES_ON;
                case Op.END:
                    return next == code.bodyEnd[callFunction[calls - 1]] ? leave() : GOES_ON;
                case Op.BR:
                    return branch(at + 1);
                case Op.BR_IF:
                    return pop() != 0 ? branch(at + 1) : GOES_ON;
                case Op.BR_TABLE:
                    return branch(at + 2 + chosen(pop(), code.words[at + 1]));
                case Op.RETURN:
                    return leave();
                case Op.CALL:
                    return enter(code.words[at + 1]);
                default:
                    return GOES_ON;
            }
        }

        private int passOver(int ifPlace) {
            int elsePlace = code.elseOf[ifPlace];
            next = elsePlace == NONE ? code.endOf[ifPlace] : elsePlace + 1;
            return GOES_ON;
        }

        private static int chosen(int i, int n) {
            return Integer.compareUnsigned(i, n) < 0 ? i : n;
        }

        private int branch(int labelPlace) {
            int target = code.targetOf[labelPlace];
            if (target == NONE) {
                return leave();
            }
            boolean again = code.words[target] == Op.LOOP;
            fallTo(callBase[calls - 1] + code.heightOf[target], again ? 0 : code.words[target + 1]);
            next = again ? target + 2 : code.endOf[target] + 1;
            return GOES_ON;
        }

        /** What is kept, 0 or 1 values, stays at the top. */
        private void fallTo(int height, int kept) {
            if (kept == 1) {
                stack[height] = stack[depth - 1];
            }
            depth = height + kept;
        }

        private int enter(int f) {
            if (calls == MAX_CALLS) {
                return TRAP_CALLS;
            }
            int parameters = code.parameters[f];
            depth -= parameters;
            callFunction[calls] = f;
            callReturn[calls] = next;
            callBase[calls] = depth;
            calls++;
            int first = localPlace(0);
            Arrays.fill(callLocals, first, first + LOCALS_OF_CALL, 0);
            System.arraycopy(stack, depth, callLocals, first, parameters);
            next = code.bodyStart(f);
            return GOES_ON;
        }

        private int leave() {
            int call = calls - 1;
            int results = code.results[callFunction[call]];
            fallTo(callBase[call], results);
            next = callReturn[call];
            calls = call;
            if (calls > 0) {
                return GOES_ON;
            }
            outcome = results == 1 ? pop() : 0;
            return FINISHED;
        }

        private int localPlace(int x) {
            return (calls - 1) * LOCALS_OF_CALL + x;
        }

        private int push(int number) {
            if (depth == MAX_DEPTH) {
                return TRAP_STACK;
            }
            stack[depth] = number;
            depth++;
            return GOES_ON;
        }

        private int pop() {
            depth--;
            return stack[depth];
        }

        private int move(int op, int at) {
            if (op == Op.DROP) {
                depth--;
                return GOES_ON;
            }
            if (op == Op.SELECT) {
                return select();
            }
            int x = code.words[at + 1];
            switch (op) {
                case Op.LOCAL_GET:
                    return push(callLocals[localPlace(x)]);
                case Op.LOCAL_SET:
                    callLocals[localPlace(x)] = pop();
                    return GOES_ON;
                case Op.LOCAL_TEE:
                    callLocals[localPlace(x)] = stack[depth - 1];
                    return GOES_ON;
                case Op.GLOBAL_GET:
                    return push(globals[x]);
                default:
                    globals[x] = pop();
                    return GOES_ON;
            }
        }

        private int select() {
            int c = pop();
            int b = pop();
            if (c == 0) {
                stack[depth - 1] = b;
            }
            return GOES_ON;
        }

        private int useMemory(int op, int at) {
            switch (op) {
                case Op.MEMORY_SIZE:
                    return push(memory.pages);
                case Op.MEMORY_GROW:
                    return push(memory.grow(pop()));
                case Op.STORE: case Op.STORE8: case Op.STORE16:
                    return store(Op.bytesOf(op), code.words[at + 1]);
                default:
                    return load(op, code.words[at + 1]);
            }
        }

        private int store(int count, int offset) {
            long place = Integer.toUnsignedLong(stack[depth - 2]) + offset;
            if (!memory.holds(place, count)) {
                return TRAP_MEMORY;
            }
            memory.write((int) place, stack[depth - 1], count);
            depth -= 2;
            return GOES_ON;
        }

        private int load(int op, int offset) {
            int count = Op.bytesOf(op);
            long place = Integer.toUnsignedLong(stack[depth - 1]) + offset;
            if (!memory.holds(place, count)) {
                return TRAP_MEMORY;
            }
            int number = memory.read((int) place, count);
            if (op == Op.LOAD8_S) {
                number = (byte) number;
            } else if (op == Op.LOAD16_S) {
                number = (short) number;
            }
            stack[depth - 1] = number;
            return GOES_ON;
        }

        private int calculate(int op) {
            int last = stack[depth - 1];
            if (Op.isUnary(op)) {
                stack[depth - 1] = Numbers.ofOne(op, last);
                return GOES_ON;
            }
            int first = stack[depth - 2];
            if (Op.isDivision(op)) {
                return divide(op, first, last);
            }
            boolean compares = op <= Op.GE_U;
            return replaceTwo(compares ? Numbers.compared(op, first, last) : Numbers.ofTwo(op, first, last));
        }

        private int divide(int op, int a, int b) {
            if (b == 0) {
                return TRAP_DIVISION_BY_ZERO;
            }
            if (op == Op.DIV_S && a == LEAST_INT && b == -1) {
                return TRAP_QUOTIENT;
            }
            return replaceTwo(Numbers.divided(op, a, b));
        }

        private int replaceTwo(int number) {
            depth--;
            stack[depth - 1] = number;
            return GOES_ON;
        }
    }

    /** The arithmetic of the instructions that stand for numbers alone. */
    private static final class Numbers {
        static int ofOne(int op, int a) {
            switch (op) {
                case Op.CLZ:
                    return Integer.numberOfLeadingZeros(a);
                case Op.CTZ:
                    return Integer.numberOfTrailingZeros(a);
                case Op.POPCNT:
                    return Integer.bitCount(a);
                default:
                    return a == 0 ? 1 : 0;
            }
        }

        static int compared(int op, int a, int b) {
            return isTrue(op, a, b) ? 1 : 0;
        }

        private static boolean isTrue(int op, int a, int b) {
            switch (op) {
                case Op.EQ:
                    return a == b;
                case Op.NE:
                    return a != b;
                case Op.LT_S:
                    return a < b;
                case Op.LT_U:
                    return Integer.compareUnsigned(a, b) < 0;
                case Op.GT_S:
                    return a > b;
                case Op.GT_U:
                    return Integer.compareUnsigned(a, b) > 0;
                case Op.LE_S:
                    return a <= b;
                case Op.LE_U:
                    return Integer.compareUnsigned(a, b) <= 0;
                case Op.GE_S:
                    return a >= b;
                default:
                    return Integer.compareUnsigned(a, b) >= 0;
            }
        }

        static int ofTwo(int op, int a, int b) {
            switch (op) {
                case Op.ADD:
                    return a + b;
                case Op.SUB:
                    return a - b;
                case Op.MUL:
                    return a * b;
                case Op.AND:
                    return a & b;
                case Op.OR:
                    return a | b;
                case Op.XOR:
                    return a ^ b;
                case Op.SHL:
                    return a << b;
                case Op.SHR_S:
                    return a >> b;
                case Op.SHR_U:
                    return a >>> b;
                case Op.ROTL:
                    return a << b | a >>> -b;
                default:
                    return a >>> b | a << -b;
            }
        }

        /** A divisor of 0 never comes here; it answers 0 so that no call can throw by itself. */
        static int divided(int op, int a, int b) {
            if (b == 0) {
                return 0;
            }
            switch (op) {
                case Op.DIV_S:
                    return a / b;
                case Op.REM_S:
                    return a % b;
                case Op.DIV_U:
                    return (int) (Integer.toUnsignedLong(a) / Integer.toUnsignedLong(b));
                default:
                    return (int) (Integer.toUnsignedLong(a) % Integer.toUnsignedLong(b));
            }
        }
    }
}
