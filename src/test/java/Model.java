import java.util.ArrayList;
import java.util.List;

/**
 * The document once more, in another way and without regard to speed: frames are kept while code runs, and ends are
 * looked for when they are needed. ModelTest compares the class with it.
 */
final class Model {
    /** An ERROR of checking, or a TRAP. */
    private static final class Stop extends Exception {
        private static final long serialVersionUID = 1L;
        final int number;

        Stop(int number) {
            super(null, null, false, false);
            this.number = number;
        }
    }

    private static final class Function {
        int start;
        int end;
        int parameters;
        int locals;
        int results;
    }

    private static final class Frame {
        char kind;
        int results;
        int height;
        boolean reached = true;
        int opener = -1;
    }

    private static final class Activation {
        Function function;
        int[] locals;
        int base;
        int back;
        final List<Frame> frames = new ArrayList<>();
    }

    private final List<Integer> code = new ArrayList<>();
    private final List<Function> functions = new ArrayList<>();
    private final List<Integer> arguments = new ArrayList<>();
    private final List<Integer> stack = new ArrayList<>();
    private final List<Activation> calls = new ArrayList<>();
    private int[] globals = new int[4];
    private int[] memory = new int[64];
    private int status = 0;
    private int trap = 0;
    private int next = 0;
    private int result = 0;
    private int faultFunction = -1;
    private int faultPlace = -1;

    // the check
    private Function checkedFunction;
    private final List<Frame> frames = new ArrayList<>();
    private int height;

    int feed(int n, long words) {
        if (n < 1 || n > 8) {
            throw new IllegalArgumentException();
        }
        if (status != 0 || code.size() + n > 240) {
            throw new IllegalStateException();
        }
        for (int i = n; i > 0; i--) {
            code.add((int) Math.floorMod(words / power(i - 1) - (words < 0 && words % power(i - 1) != 0 ? 1 : 0), 256L));
        }
        return code.size();
    }

    private static long power(int bytes) {
        long p = 1;
        for (int i = 0; i < bytes; i++) {
            p *= 256;
        }
        return p;
    }

    int word(int word) {
        if (status != 0 || code.size() == 240) {
            throw new IllegalStateException();
        }
        code.add(word);
        return code.size();
    }

    private int bodiesEnd() {
        return functions.isEmpty() ? 0 : functions.get(functions.size() - 1).end;
    }

    int declare(int parameters, int locals, int results) {
        if (parameters < 0 || parameters > 4 || locals < 0 || locals > 4 || results < 0 || results > 1) {
            throw new IllegalArgumentException();
        }
        if (status != 0 || functions.size() == 6 || bodiesEnd() == code.size()) {
            throw new IllegalStateException();
        }
        Function f = new Function();
        f.start = bodiesEnd();
        f.end = code.size();
        f.parameters = parameters;
        f.locals = parameters + locals;
        f.results = results;
        functions.add(f);
        return functions.size() - 1;
    }

    int validate() {
        if (status != 0 || functions.isEmpty() || bodiesEnd() != code.size()) {
            throw new IllegalStateException();
        }
        for (int f = 0; f < functions.size(); f++) {
            int error = check(functions.get(f));
            if (error != 0) {
                faultFunction = f;
                faultPlace = next;
                return error;
            }
        }
        status = 1;
        return 0;
    }

    int fault(int w) {
        return w == 0 ? faultFunction : w == 1 ? faultPlace : -1;
    }

    void clear() {
        code.clear();
        functions.clear();
        arguments.clear();
        globals = new int[4];
        memory = new int[64];
        status = 0;
        faultFunction = -1;
        faultPlace = -1;
    }

    int argument(int v) {
        if (arguments.size() == 4) {
            return -1;
        }
        arguments.add(v);
        return arguments.size();
    }

    void invoke(int f) {
        if (status == 0 || status == 2) {
            throw new IllegalStateException();
        }
        if (f < 0 || f >= functions.size()) {
            throw new IndexOutOfBoundsException();
        }
        if (functions.get(f).parameters != arguments.size()) {
            throw new IllegalArgumentException();
        }
        stack.clear();
        calls.clear();
        next = -1;
        activate(functions.get(f), arguments, -1);
        arguments.clear();
        status = 2;
    }

    int run(int fuel) {
        if (fuel < 0 || fuel > 500) {
            return -1;
        }
        int steps = 0;
        while (status == 2 && steps < fuel) {
            steps++;
            try {
                step();
            } catch (Stop stop) {
                status = 4;
                trap = stop.number;
            }
        }
        return steps;
    }

    boolean stop() {
        boolean running = status == 2;
        if (running) {
            status = 1;
        }
        return running;
    }

    int result() {
        if (status != 3) {
            throw new IllegalStateException();
        }
        return result;
    }

    int look(int which) {
        switch (which) {
            case 0: return status;
            case 1: return status == 4 ? trap : 0;
            case 2: return status == 2 ? next : -1;
            case 3: return status == 2 ? stack.size() : 0;
            case 4: return status == 2 ? calls.size() : 0;
            case 5: return memory.length / 64;
            case 6: return code.size();
            default: return -1;
        }
    }

    int value(int which, int k) {
        int[] row = {};
        if (which == 0 && status == 2) {
            row = stack.stream().mapToInt(Integer::intValue).toArray();
        } else if (which == 1 && status == 2) {
            row = innermost().locals;
        } else if (which == 2) {
            row = globals;
        }
        if (k < 0 || k >= row.length) {
            throw new IndexOutOfBoundsException();
        }
        return row[k];
    }

    int peek(int a) {
        return a < 0 || a >= memory.length ? -1 : memory[a];
    }

    boolean poke(int a, int v) {
        if (status == 2 || a < 0 || a >= memory.length) {
            return false;
        }
        memory[a] = v & 255;
        return true;
    }

    /** Whether the words so far, as the only body of a function of this kind, are right but for ends that lack. */
    static boolean isRightSoFar(List<Integer> body, int[][] signatures, int own) {
        Model m = new Model();
        m.code.addAll(body);
        for (int f = 0; f < signatures.length; f++) {
            Function g = new Function();
            g.end = body.size();
            g.parameters = signatures[f][0];
            g.locals = signatures[f][0] + signatures[f][1];
            g.results = signatures[f][2];
            m.functions.add(g);
        }
        int error = m.check(m.functions.get(own));
        return error == 0 || error == 1 && m.next == body.size();
    }

    static boolean isRight(List<Integer> body, int[][] signatures, int own) {
        return isRightSoFar(body, signatures, own) && !isRightSoFar(plus(body, 0x01), signatures, own);
    }

    static List<Integer> plus(List<Integer> body, int... words) {
        List<Integer> longer = new ArrayList<>(body);
        for (int word : words) {
            longer.add(word);
        }
        return longer;
    }

    // ---- the check, word for word as the document has it

    private int check(Function f) {
        checkedFunction = f;
        frames.clear();
        height = 0;
        Frame bodyFrame = new Frame();
        bodyFrame.kind = 'b';
        bodyFrame.results = f.results;
        frames.add(0, bodyFrame);
        next = f.start;
        try {
            while (next < f.end) {
                int size = sizeChecked(next, f.end);
                checkOne(code.get(next));
                if (frames.isEmpty() && next != f.end - 1) {
                    return 7;
                }
                next += size;
            }
        } catch (Stop stop) {
            return stop.number;
        }
        return frames.isEmpty() ? 0 : 1;
    }

    private static final String WITH_IMMEDIATE = " 2 3 4 c d e 10 20 21 22 23 24 28 2c 2d 2e 2f 36 3a 3b 41 ";
    private static final String BARE = " 0 1 5 b f 1a 1b 3f 40 ";

    private static boolean in(String row, int word) {
        return row.contains(" " + Integer.toHexString(word) + " ");
    }

    private int sizeOf(int at) {
        int op = code.get(at);
        if (op == 0x0E) {
            return 3 + code.get(at + 1);
        }
        return in(WITH_IMMEDIATE, op) ? 2 : 1;
    }

    private int sizeChecked(int at, int end) throws Stop {
        int op = code.get(at);
        boolean numeric = op >= 0x45 && op <= 0x4F || op >= 0x67 && op <= 0x78;
        if (numeric || in(BARE, op)) {
            return 1;
        }
        demand(in(WITH_IMMEDIATE, op) && at + 2 <= end, 1);
        int i = code.get(at + 1);
        if (op >= 0x02 && op <= 0x04) {
            demand(i == 0 || i == 1, 5);
        } else if (op == 0x0E) {
            demand(i >= 0 && i <= 8, 5);
            demand(at + 3 + i <= end, 1);
            for (int k = 0; k <= i; k++) {
                label(code.get(at + 2 + k));
            }
            return 3 + i;
        } else if (op >= 0x28 && op <= 0x3B) {
            demand(i >= 0, 5);
        } else if (op >= 0x20 && op <= 0x22) {
            demand(i >= 0 && i < checkedFunction.locals, 5);
        } else if (op == 0x23 || op == 0x24) {
            demand(i >= 0 && i <= 3, 5);
        } else if (op == 0x10) {
            demand(i >= 0 && i < functions.size(), 5);
        } else if (op == 0x0C || op == 0x0D) {
            label(i);
        }
        return 2;
    }

    private static void demand(boolean holds, int number) throws Stop {
        if (!holds) {
            throw new Stop(number);
        }
    }

    /** How many values the label takes. */
    private int label(int l) throws Stop {
        demand(l >= 0 && l < frames.size(), 4);
        Frame frame = frames.get(l);
        return frame.kind == 'l' ? 0 : frame.results;
    }

    private void take(int k) throws Stop {
        Frame inner = frames.get(0);
        for (int i = 0; i < k; i++) {
            if (height == inner.height) {
                demand(!inner.reached, 2);
            } else {
                height--;
            }
        }
    }

    private void give(int k) throws Stop {
        demand(height + k <= 20, 6);
        height += k;
    }

    private void leaveOff() {
        height = frames.get(0).height;
        frames.get(0).reached = false;
    }

    private void begin(char kind, int results) throws Stop {
        demand(frames.size() < 9, 6);
        Frame frame = new Frame();
        frame.kind = kind;
        frame.results = results;
        frame.height = height;
        frames.add(0, frame);
    }

    private void checkOne(int op) throws Stop {
        int i = next + 1 < code.size() ? code.get(next + 1) : 0;
        Frame inner = frames.get(0);
        if (op == 0x00) {
            leaveOff();
        } else if (op == 0x02 || op == 0x03) {
            begin(op == 0x02 ? 'k' : 'l', i);
        } else if (op == 0x04) {
            take(1);
            begin('i', i);
        } else if (op == 0x05) {
            demand(inner.kind == 'i', 3);
            take(inner.results);
            demand(height == inner.height, 3);
            inner.kind = 'e';
            inner.reached = true;
        } else if (op == 0x0B) {
            take(inner.results);
            demand(height == inner.height, 3);
            demand(inner.kind != 'i' || inner.results == 0, 3);
            frames.remove(0);
            if (inner.kind != 'b') {
                give(inner.results);
            }
        } else if (op == 0x0C) {
            take(label(i));
            leaveOff();
        } else if (op == 0x0D) {
            take(1);
            take(label(i));
            give(label(i));
        } else if (op == 0x0E) {
            int taken = label(code.get(next + 2));
            for (int k = 0; k <= i; k++) {
                demand(label(code.get(next + 2 + k)) == taken, 3);
            }
            take(1);
            take(taken);
            leaveOff();
        } else if (op == 0x0F) {
            take(checkedFunction.results);
            leaveOff();
        } else if (op == 0x10) {
            take(functions.get(i).parameters);
            give(functions.get(i).results);
        } else {
            checkPlain(op);
        }
    }

    private void checkPlain(int op) throws Stop {
        if (in(" 20 23 3f 41 ", op)) {
            give(1);
        } else if (in(" 1a 21 24 ", op)) {
            take(1);
        } else if (in(" 22 28 2c 2d 2e 2f 40 45 67 68 69 ", op)) {
            take(1);
            give(1);
        } else if (in(" 36 3a 3b ", op)) {
            take(2);
        } else if (op == 0x1B) {
            take(3);
            give(1);
        } else if (op != 0x01) {
            take(2);
            give(1);
        }
    }

    // ---- a run

    private Activation innermost() {
        return calls.get(calls.size() - 1);
    }

    private void activate(Function f, List<Integer> given, int back) {
        Activation call = new Activation();
        call.function = f;
        call.locals = new int[f.locals];
        for (int k = 0; k < given.size(); k++) {
            call.locals[k] = given.get(k);
        }
        call.base = stack.size();
        call.back = back;
        calls.add(call);
        next = f.start;
    }

    private int top(int below) {
        return stack.get(stack.size() - 1 - below);
    }

    private void shorten(int size) {
        while (stack.size() > size) {
            stack.remove(stack.size() - 1);
        }
    }

    private void put(int takes, int v) throws Stop {
        demand(stack.size() - takes < 100, 5);
        shorten(stack.size() - takes);
        stack.add(v);
    }

    private void keepAbove(int size, int kept) {
        List<Integer> tail = new ArrayList<>(stack.subList(stack.size() - kept, stack.size()));
        shorten(size);
        stack.addAll(tail);
    }

    /** The place of the end that belongs to what begins at the place, or of its else if that is asked for. */
    private int partner(int opener, boolean orElse) {
        int open = 0;
        int at = opener;
        while (true) {
            int op = code.get(at);
            if (op >= 0x02 && op <= 0x04) {
                open++;
            } else if (op == 0x0B) {
                open--;
            }
            if (open == 0 || open == 1 && op == 0x05 && orElse) {
                return at;
            }
            at += sizeOf(at);
        }
    }

    private void comeBack() {
        Activation call = innermost();
        keepAbove(call.base, call.function.results);
        calls.remove(calls.size() - 1);
        next = call.back;
        if (calls.isEmpty()) {
            status = 3;
            result = call.function.results == 1 ? top(0) : 0;
        }
    }

    private void branch(int l) {
        List<Frame> open = innermost().frames;
        if (l == open.size()) {
            comeBack();
            return;
        }
        for (int i = 0; i < l; i++) {
            open.remove(0);
        }
        Frame target = open.get(0);
        if (target.kind == 'l') {
            keepAbove(target.height, 0);
            next = target.opener + 2;
        } else {
            keepAbove(target.height, target.results);
            next = partner(target.opener, false) + 1;
            open.remove(0);
        }
    }

    private void enterFrame(int op, int at) {
        Frame frame = new Frame();
        frame.kind = op == 0x03 ? 'l' : 'k';
        frame.results = code.get(at + 1);
        frame.height = stack.size();
        frame.opener = at;
        innermost().frames.add(0, frame);
    }

    private void step() throws Stop {
        int at = next;
        int op = code.get(at);
        int i = at + 1 < code.size() ? code.get(at + 1) : 0;
        next = at + sizeOf(at);
        if (op <= 0x10) {
            control(op, at, i);
        } else if (op <= 0x24) {
            values(op, i);
        } else if (op <= 0x40) {
            memory(op, i);
        } else if (op == 0x41) {
            put(0, i);
        } else {
            numbers(op);
        }
    }

    private void control(int op, int at, int i) throws Stop {
        if (op == 0x00) {
            throw new Stop(1);
        } else if (op == 0x02 || op == 0x03) {
            enterFrame(op, at);
        } else if (op == 0x04) {
            int c = top(0);
            shorten(stack.size() - 1);
            enterFrame(op, at);
            if (c == 0) {
                int there = partner(at, true);
                next = code.get(there) == 0x05 ? there + 1 : there;
            }
        } else if (op == 0x05) {
            next = partner(innermost().frames.get(0).opener, false);
        } else if (op == 0x0B) {
            if (innermost().frames.isEmpty()) {
                comeBack();
            } else {
                innermost().frames.remove(0);
            }
        } else if (op == 0x0C) {
            branch(i);
        } else if (op == 0x0D || op == 0x0E) {
            int c = top(0);
            shorten(stack.size() - 1);
            if (op == 0x0E) {
                long index = c & 0xFFFFFFFFL;
                branch(code.get(at + 2 + (int) Math.min(index, i)));
            } else if (c != 0) {
                branch(i);
            }
        } else if (op == 0x0F) {
            comeBack();
        } else if (op == 0x10) {
            demand(calls.size() < 6, 6);
            Function f = functions.get(i);
            int below = stack.size() - f.parameters;
            List<Integer> given = new ArrayList<>(stack.subList(below, stack.size()));
            shorten(below);
            activate(f, given, next);
        }
    }

    private void values(int op, int i) throws Stop {
        int[] locals = innermost().locals;
        switch (op) {
            case 0x1A:
                shorten(stack.size() - 1);
                break;
            case 0x1B:
                put(3, top(0) != 0 ? top(2) : top(1));
                break;
            case 0x20:
                put(0, locals[i]);
                break;
            case 0x23:
                put(0, globals[i]);
                break;
            case 0x24:
                globals[i] = top(0);
                shorten(stack.size() - 1);
                break;
            default:
                locals[i] = top(0);
                if (op == 0x21) {
                    shorten(stack.size() - 1);
                }
        }
    }

    private void memory(int op, int offset) throws Stop {
        int pages = memory.length / 64;
        if (op == 0x3F) {
            put(0, pages);
            return;
        }
        if (op == 0x40) {
            long wanted = (top(0) & 0xFFFFFFFFL) + pages;
            if (wanted <= 4) {
                memory = java.util.Arrays.copyOf(memory, (int) wanted * 64);
            }
            put(1, wanted <= 4 ? pages : -1);
            return;
        }
        boolean store = op >= 0x36;
        int count = in(" 28 36 ", op) ? 4 : in(" 2e 2f 3b ", op) ? 2 : 1;
        long place = (top(store ? 1 : 0) & 0xFFFFFFFFL) + offset;
        demand(place + count - 1 < memory.length, 4);
        if (store) {
            for (int k = 0; k < count; k++) {
                memory[(int) place + k] = top(0) >>> 8 * k & 255;
            }
            shorten(stack.size() - 2);
        } else {
            long all = 0;
            for (int k = 0; k < count; k++) {
                all += (long) memory[(int) place + k] << 8 * k;
            }
            long half = 1L << 8 * count - 1;
            boolean signed = op == 0x2C || op == 0x2E;
            put(1, (int) (signed && all >= half ? all - 2 * half : all));
        }
    }

    private void numbers(int op) throws Stop {
        if (in(" 45 67 68 69 ", op)) {
            int a = top(0);
            int zeros = 0;
            while (op != 0x69 && zeros < 32 && (op == 0x67 ? a << zeros >= 0 : (a >> zeros & 1) == 0)) {
                zeros++;
            }
            int ones = 0;
            for (int k = 0; k < 32; k++) {
                ones += a >> k & 1;
            }
            put(1, op == 0x45 ? (a == 0 ? 1 : 0) : op == 0x69 ? ones : zeros);
            return;
        }
        long a = top(1);
        long b = top(0);
        long ua = a & 0xFFFFFFFFL;
        long ub = b & 0xFFFFFFFFL;
        demand(op < 0x6D || op > 0x70 || b != 0, 2);
        demand(op != 0x6D || a / b <= Integer.MAX_VALUE, 3);
        put(2, (int) two(op, a, b, ua, ub));
    }

    private static long two(int op, long a, long b, long ua, long ub) {
        int by = (int) (ub % 32);
        switch (op) {
            case 0x46: return a == b ? 1 : 0;
            case 0x47: return a == b ? 0 : 1;
            case 0x48: return a < b ? 1 : 0;
            case 0x49: return ua < ub ? 1 : 0;
            case 0x4A: return a > b ? 1 : 0;
            case 0x4B: return ua > ub ? 1 : 0;
            case 0x4C: return a > b ? 0 : 1;
            case 0x4D: return ua > ub ? 0 : 1;
            case 0x4E: return a < b ? 0 : 1;
            case 0x4F: return ua < ub ? 0 : 1;
            case 0x6A: return a + b;
            case 0x6B: return a - b;
            case 0x6C: return a * b;
            case 0x6D: return a / b;
            case 0x6E: return ua / ub;
            case 0x6F: return a % b;
            case 0x70: return ua % ub;
            case 0x71: return a & b;
            case 0x72: return a | b;
            case 0x73: return a ^ b;
            case 0x74: return ua << by;
            case 0x75: return a >> by;
            case 0x76: return ua >> by;
            case 0x77: return ua << by | ua >> 32 - by;
            default: return ua >> by | ua << 32 - by;
        }
    }
}
