import java.util.ArrayList;
import java.util.List;
import java.util.Random;

/** All promises: made-up runs of calls on an object and on the Model, which must answer the same; always the same runs. */
public final class ModelTest {
    private static final int RUNS = 6000;
    private static final int CALLS = 512;
    private static final int[] OPS = {
        0x00, 0x01, 0x02, 0x03, 0x04, 0x05, 0x0B, 0x0C, 0x0D, 0x0E, 0x0F, 0x10, 0x1A, 0x1B, 0x20, 0x21, 0x22, 0x23, 0x24,
        0x28, 0x2C, 0x2D, 0x2E, 0x2F, 0x36, 0x3A, 0x3B, 0x3F, 0x40, 0x41, 0x45, 0x46, 0x47, 0x48, 0x49, 0x4A, 0x4B, 0x4C,
        0x4D, 0x4E, 0x4F, 0x67, 0x68, 0x69, 0x6A, 0x6B, 0x6C, 0x6D, 0x6E, 0x6F, 0x70, 0x71, 0x72, 0x73, 0x74, 0x75, 0x76,
        0x77, 0x78,
    };
    private static final int[] OFTEN = {0x02, 0x03, 0x04, 0x05, 0x0B, 0x0C, 0x0D, 0x0E, 0x10, 0x20, 0x21, 0x22, 0x41, 0x41};
    private static final int[] EDGES = {0, 1, 2, 3, 4, 5, 8, 31, 60, 61, 62, 63, 64, 100, 128, 252, 255, 256, -1, -2, -64,
        Integer.MIN_VALUE, Integer.MAX_VALUE, 0x12345678, 0x80FF7F01};

    private final Random random;
    private final int run;
    private final WasmCore x = new WasmCore();
    private final Model m = new Model();
    private int calls = 0;

    private static final int[] errorsSeen = new int[8];
    private static final int[] trapsSeen = new int[7];
    private static int doneSeen = 0;
    private static int differences = 0;

    private ModelTest(int run) {
        this.run = run;
        this.random = new Random(run * 7919L + 17);
    }

    public static void main(String[] args) {
        int runs = args.length > 0 ? Integer.parseInt(args[0]) : RUNS;
        for (int run = 0; run < runs && differences < 20; run++) {
            new ModelTest(run).go();
        }
        Check.same("differences", differences, 0);
        for (int error = 0; error < errorsSeen.length; error++) {
            Check.isTrue("validate() answered " + error + " in some run", errorsSeen[error] > 0);
        }
        for (int trap = 1; trap < trapsSeen.length; trap++) {
            Check.isTrue("trap " + trap + " in some run", trapsSeen[trap] > 0);
        }
        Check.isTrue("some runs were DONE", doneSeen > 0);
        System.out.println("ModelTest: ERRORs " + java.util.Arrays.toString(errorsSeen)
                + ", TRAPs " + java.util.Arrays.toString(trapsSeen) + ", DONE " + doneSeen);
        Check.finish("ModelTest");
    }

    private boolean chance(int percent) {
        return random.nextInt(100) < percent;
    }

    private int edge() {
        return chance(70) ? EDGES[random.nextInt(EDGES.length)] : random.nextInt();
    }

    /** The same call on both; the model's answer. */
    private long both(String what, Check.Call ofClass, Check.Call ofModel) {
        if (calls >= CALLS) {
            return 0;
        }
        calls++;
        String due = told(ofModel);
        String got = told(ofClass);
        if (!got.equals(due)) {
            differences++;
            System.out.println("run " + run + ", call " + calls + ": " + what + " gave " + got + ", due is " + due);
        }
        return due.startsWith("throws") ? Long.MIN_VALUE : Long.parseLong(due);
    }

    private static String told(Check.Call call) {
        try {
            return Long.toString(call.answer());
        } catch (RuntimeException e) {
            return "throws." + e.getClass().getSimpleName();
        }
    }

    private void go() {
        while (calls < CALLS) {
            bringModule();
            int uses = random.nextInt(400);
            for (int i = 0; i < uses && calls < CALLS; i++) {
                use();
            }
            both("clear()", () -> {
                x.clear();
                return 0;
            }, () -> {
                m.clear();
                return 0;
            });
        }
    }

    private void bringModule() {
        int functions = 1 + random.nextInt(6);
        int[][] signatures = new int[functions][];
        for (int f = 0; f < functions; f++) {
            signatures[f] = new int[] {random.nextInt(4) == 0 ? random.nextInt(5) : random.nextInt(2),
                random.nextInt(3), random.nextInt(2)};
        }
        boolean wild = chance(15);
        boolean spoilt = chance(15);
        int room = 240 / functions;
        for (int f = 0; f < functions; f++) {
            List<Integer> body = wild ? wildBody(room) : chance(15) ? deepBody(signatures, f) : rightBody(signatures, f, room);
            if (spoilt && chance(30) && !body.isEmpty()) {
                body.set(random.nextInt(body.size()), chance(50) ? OPS[random.nextInt(OPS.length)] : edge());
            }
            bring(body);
            int[] s = signatures[f];
            both("declare", () -> x.declare(s[0], s[1], s[2]), () -> m.declare(s[0], s[1], s[2]));
            if (chance(3)) {
                oddCall();
            }
        }
        validate();
    }

    private void validate() {
        long error = both("validate()", () -> x.validate(), () -> m.validate());
        if (error >= 0 && error < 8 && calls < CALLS) {
            errorsSeen[(int) error]++;
        }
        for (int w = -1; w <= 2; w++) {
            int v = w;
            both("fault(" + v + ")", () -> x.fault(v), () -> m.fault(v));
        }
    }

    private void bring(List<Integer> body) {
        int at = 0;
        while (at < body.size()) {
            int n = 0;
            long packed = 0;
            while (n < 8 && at + n < body.size() && body.get(at + n) >= 0 && body.get(at + n) < 256) {
                packed = packed << 8 | body.get(at + n);
                n++;
            }
            int count = n;
            if (n == 0) {
                int word = body.get(at);
                both("word(" + word + ")", () -> x.word(word), () -> m.word(word));
                at++;
            } else {
                long words = n == 8 ? packed : packed | random.nextLong() << 8 * n;
                both("feed(" + n + ", " + words + ")", () -> x.feed(count, words), () -> m.feed(count, words));
                at += n;
            }
        }
    }

    private List<Integer> wildBody(int room) {
        List<Integer> body = new ArrayList<>();
        int length = 1 + random.nextInt(Math.max(1, room - 1));
        while (body.size() < length) {
            body.add(chance(60) ? OPS[random.nextInt(OPS.length)] : chance(80) ? random.nextInt(3) : edge());
        }
        return body;
    }

    /** 20 values and a call, or some 8 frames, so that the stack, the calls and the check come to their ends. */
    private List<Integer> deepBody(int[][] signatures, int own) {
        List<Integer> body = new ArrayList<>();
        if (chance(20)) {
            int depth = 7 + random.nextInt(3);
            for (int i = 0; i < depth; i++) {
                body = chance(70) ? Model.plus(body, 0x02, 0) : Model.plus(body, 0x41, 1, 0x04, 0);
            }
            return chance(20) ? body : closed(body, signatures, own);
        }
        int values = 20 + random.nextInt(20) / 19;
        for (int i = 0; i < values; i++) {
            body = Model.plus(body, 0x3F);
        }
        body = Model.plus(body, 0x10, random.nextInt(signatures.length));
        if (chance(10)) {
            return body;
        }
        return Model.isRightSoFar(body, signatures, own) ? closed(body, signatures, own) : rightBody(signatures, own, 30);
    }

    private List<Integer> rightBody(int[][] signatures, int own, int room) {
        List<Integer> body = new ArrayList<>();
        int wanted = random.nextInt(Math.max(1, room - 12));
        for (int tries = 0; tries < 200 && body.size() < wanted; tries++) {
            List<Integer> longer = Model.plus(body, instruction(signatures.length));
            boolean ends = longer.get(longer.size() - 1) == 0x0B && Model.isRight(longer, signatures, own);
            if (Model.isRightSoFar(longer, signatures, own) && !ends) {
                body = longer;
            }
        }
        return closed(body, signatures, own);
    }

    private List<Integer> closed(List<Integer> body, int[][] signatures, int own) {
        List<Integer> all = body;
        int[][] ways = {{0x0B}, {0x05}, {0x1A}, {0x41, 7}};
        for (int tries = 0; tries < 60 && !Model.isRight(all, signatures, own); tries++) {
            for (int[] way : ways) {
                List<Integer> longer = Model.plus(all, way);
                if (Model.isRightSoFar(longer, signatures, own)) {
                    all = longer;
                    break;
                }
            }
        }
        return all;
    }

    private int[] instruction(int functions) {
        if (chance(1)) {
            return new int[] {0x41, Integer.MIN_VALUE, 0x41, -1, random.nextBoolean() ? 0x6D : 0x6F};
        }
        int op = chance(45) ? OFTEN[random.nextInt(OFTEN.length)] : OPS[random.nextInt(OPS.length)];
        switch (op) {
            case 0x02: case 0x03: case 0x04:
                return new int[] {op, random.nextInt(2)};
            case 0x0C: case 0x0D:
                return new int[] {op, random.nextInt(4)};
            case 0x0E:
                int n = random.nextInt(4);
                int[] table = new int[3 + n];
                table[0] = op;
                table[1] = n;
                for (int i = 0; i <= n; i++) {
                    table[2 + i] = random.nextInt(3);
                }
                return table;
            case 0x10:
                return new int[] {op, random.nextInt(functions)};
            case 0x20: case 0x21: case 0x22: case 0x23: case 0x24:
                return new int[] {op, random.nextInt(4)};
            case 0x28: case 0x2C: case 0x2D: case 0x2E: case 0x2F: case 0x36: case 0x3A: case 0x3B:
                return new int[] {op, chance(80) ? random.nextInt(64) : edge() & Integer.MAX_VALUE};
            case 0x41:
                return new int[] {op, chance(50) ? random.nextInt(8) : edge()};
            default:
                return new int[] {op};
        }
    }

    private void use() {
        int kind = random.nextInt(100);
        if (kind < 15) {
            invoke();
        } else if (kind < 45) {
            int fuel = chance(70) ? random.nextInt(6) : chance(90) ? random.nextInt(501) : edge();
            both("run(" + fuel + ")", () -> x.run(fuel), () -> m.run(fuel));
            tellEnd();
        } else if (kind < 65) {
            int which = random.nextInt(9) - 1;
            both("look(" + which + ")", () -> x.look(which), () -> m.look(which));
        } else if (kind < 80) {
            int which = chance(95) ? random.nextInt(3) : edge();
            int k = chance(50) ? random.nextInt(4) : chance(80) ? random.nextInt(102) : edge();
            both("value(" + which + ", " + k + ")", () -> x.value(which, k), () -> m.value(which, k));
        } else if (kind < 86) {
            int a = chance(60) ? random.nextInt(70) : edge();
            both("peek(" + a + ")", () -> x.peek(a), () -> m.peek(a));
        } else if (kind < 90) {
            int a = chance(60) ? random.nextInt(70) : edge();
            int v = edge();
            both("poke(" + a + ", " + v + ")", () -> x.poke(a, v) ? 1 : 0, () -> m.poke(a, v) ? 1 : 0);
        } else if (kind < 95) {
            both("result()", () -> x.result(), () -> m.result());
        } else {
            oddCall();
        }
    }

    private void invoke() {
        int f = chance(95) ? random.nextInt(6) : edge();
        for (int tries = 0; tries < 5 && calls < CALLS; tries++) {
            long begun = both("invoke(" + f + ")", () -> {
                x.invoke(f);
                return 1;
            }, () -> {
                m.invoke(f);
                return 1;
            });
            if (begun == 1 || m.look(0) == 0 || m.look(0) == 2) {
                return;
            }
            int v = chance(50) ? random.nextInt(6) : edge();
            both("argument(" + v + ")", () -> x.argument(v), () -> m.argument(v));
        }
    }

    private void tellEnd() {
        if (m.look(0) == 3) {
            doneSeen++;
        } else if (m.look(0) == 4) {
            trapsSeen[m.look(1)]++;
        }
    }

    private void oddCall() {
        int kind = random.nextInt(6);
        int a = edge();
        if (kind == 0) {
            both("stop()", () -> x.stop() ? 1 : 0, () -> m.stop() ? 1 : 0);
        } else if (kind == 1) {
            validate();
        } else if (kind == 2) {
            int n = random.nextInt(12) - 1;
            long words = random.nextLong();
            both("feed(" + n + ")", () -> x.feed(n, words), () -> m.feed(n, words));
        } else if (kind == 3) {
            both("word(" + a + ")", () -> x.word(a), () -> m.word(a));
        } else if (kind == 4) {
            int p = random.nextInt(7) - 1;
            int l = random.nextInt(7) - 1;
            int r = random.nextInt(4) - 1;
            both("declare(" + p + ", " + l + ", " + r + ")", () -> x.declare(p, l, r), () -> m.declare(p, l, r));
        } else {
            both("argument(" + a + ")", () -> x.argument(a), () -> m.argument(a));
        }
    }
}
