import java.math.BigInteger;

/** Promise 10 (run), the instructions on numbers: all of them on edges, against arithmetic on big numbers; traps 2, 3. */
public final class NumbersTest {
    private static final int[] EDGES = {
        0, 1, 2, 3, 5, 7, 31, 32, 33, 63, 64, 127, 128, 255, 256, 32767, 32768, 65535, 65536, 0x12345678, 0x7FFFFFFE,
        Integer.MAX_VALUE, Integer.MIN_VALUE, Integer.MIN_VALUE + 1, -1, -2, -3, -7, -31, -32, -33, -128, -129, -65536,
        0x87654321, 0xAAAAAAAA, 0x55555555, 0x00FF00FF,
    };
    private static final BigInteger WRAP = BigInteger.ONE.shiftLeft(32);

    public static void main(String[] args) {
        for (int op = 0x45; op <= 0x78; op++) {
            if (op == 0x45 || op == 0x67 || op == 0x68 || op == 0x69) {
                unary(op);
            } else if (op <= 0x4F || op >= 0x6A) {
                binary(op);
            }
        }
        constants();
        trapsChangeNothing();
        Check.finish("NumbersTest");
    }

    private static void unary(int op) {
        for (int a : EDGES) {
            WasmCore x = Check.checked(Check.single(1, 0, 1, 0x20, 0, op, 0x0B));
            Check.same("10: " + Integer.toHexString(op) + " of " + a, Check.resultOf(x, 0, a), due(op, a));
        }
    }

    private static int due(int op, int a) {
        String bits = String.format("%32s", Integer.toBinaryString(a)).replace(' ', '0');
        switch (op) {
            case 0x45:
                return a == 0 ? 1 : 0;
            case 0x67:
                return a == 0 ? 32 : bits.indexOf('1');
            case 0x68:
                return a == 0 ? 32 : 31 - bits.lastIndexOf('1');
            default:
                return bits.replace("0", "").length();
        }
    }

    private static void binary(int op) {
        for (int a : EDGES) {
            // a new object for each a, as an object is used for at most 512 calls
            WasmCore x = Check.checked(Check.single(2, 0, 1, 0x20, 0, 0x20, 1, op, 0x0B));
            for (int b : EDGES) {
                one(x, op, a, b);
            }
        }
    }

    private static void one(WasmCore x, int op, int a, int b) {
        String what = "10: " + Integer.toHexString(op) + " of " + a + " and " + b;
        Check.invoke(x, 0, a, b);
        int steps = x.run(500);
        int trap = dueTrap(op, a, b);
        Check.same(what + ", trap", x.look(1), trap);
        Check.same(what + ", status", x.look(0), trap == 0 ? 3 : 4);
        Check.same(what + ", steps", steps, trap == 0 ? 4 : 3);
        if (trap == 0) {
            Check.same(what, x.result(), due(op, a, b));
        }
    }

    private static int dueTrap(int op, int a, int b) {
        if (op >= 0x6D && op <= 0x70 && b == 0) {
            return 2;
        }
        return op == 0x6D && a == Integer.MIN_VALUE && b == -1 ? 3 : 0;
    }

    private static int due(int op, int a, int b) {
        BigInteger as = BigInteger.valueOf(a);
        BigInteger bs = BigInteger.valueOf(b);
        BigInteger au = as.mod(WRAP);
        BigInteger bu = bs.mod(WRAP);
        int by = b & 31;
        switch (op) {
            case 0x46: return truth(as.compareTo(bs) == 0);
            case 0x47: return truth(as.compareTo(bs) != 0);
            case 0x48: return truth(as.compareTo(bs) < 0);
            case 0x49: return truth(au.compareTo(bu) < 0);
            case 0x4A: return truth(as.compareTo(bs) > 0);
            case 0x4B: return truth(au.compareTo(bu) > 0);
            case 0x4C: return truth(as.compareTo(bs) <= 0);
            case 0x4D: return truth(au.compareTo(bu) <= 0);
            case 0x4E: return truth(as.compareTo(bs) >= 0);
            case 0x4F: return truth(au.compareTo(bu) >= 0);
            case 0x6A: return as.add(bs).intValue();
            case 0x6B: return as.subtract(bs).intValue();
            case 0x6C: return as.multiply(bs).intValue();
            case 0x6D: return as.divide(bs).intValue();
            case 0x6E: return au.divide(bu).intValue();
            case 0x6F: return as.remainder(bs).intValue();
            case 0x70: return au.remainder(bu).intValue();
            case 0x71: return as.and(bs).intValue();
            case 0x72: return as.or(bs).intValue();
            case 0x73: return as.xor(bs).intValue();
            case 0x74: return au.shiftLeft(by).intValue();
            case 0x75: return as.shiftRight(by).intValue();
            case 0x76: return au.shiftRight(by).intValue();
            case 0x77: return au.shiftLeft(by).or(au.shiftRight(32 - by)).intValue();
            default: return au.shiftRight(by).or(au.shiftLeft(32 - by)).intValue();
        }
    }

    private static int truth(boolean t) {
        return t ? 1 : 0;
    }

    private static void constants() {
        for (int v : EDGES) {
            WasmCore x = Check.checked(Check.single(0, 0, 1, 0x41, v, 0x0B));
            Check.same("10: const " + v, Check.resultOf(x, 0), v);
        }
    }

    private static void trapsChangeNothing() {
        // a division by 0 between two settings of globals
        WasmCore x = Check.checked(Check.single(0, 0, 0,
                0x41, 4, 0x24, 0, 0x41, 7, 0x41, 0, 0x6D, 0x24, 1, 0x41, 4, 0x24, 2, 0x0B));
        x.poke(3, 9);
        Check.same("10: trap 2", Check.trapOf(x, 0), 2);
        Check.same("10: what was done before stays", x.value(2, 0), 4);
        Check.same("10: what comes behind is not done", x.value(2, 1), 0);
        Check.same("10: nor what comes later", x.value(2, 2), 0);
        Check.same("10: the memory stays", x.peek(3), 9);
        int[] due = {4, 2, -1, 0, 0, 1};
        for (int which = 0; which < due.length; which++) {
            Check.same("13: look(" + which + ") when TRAPPED", x.look(which), due[which]);
        }
    }
}
