import java.util.Arrays;

/**
 * Promises 5, 6, 10, 13 and 14: every body of a few instructions, be it right or wrong, is checked and run step by
 * step as in the Model. A body is made longer only while it lacks nothing but ends: the first ERROR counts, so what
 * stands behind one makes no difference (CheckTest asks that).
 */
public final class ShortBodiesTest {
    private static final int LONGEST = 5;
    private static final int STEPS = 24;

    private static final int[][] INSTRUCTIONS = {
        {0x00}, {0x01}, {0x02, 0}, {0x02, 1}, {0x03, 0}, {0x03, 1}, {0x04, 0}, {0x04, 1}, {0x05}, {0x0B},
        {0x0C, 0}, {0x0C, 1}, {0x0D, 0}, {0x0D, 1}, {0x0E, 1, 0, 1}, {0x0F}, {0x10, 1}, {0x1A}, {0x22, 0}, {0x20, 0},
    };
    /** Behind the body in question: takes the arguments' difference, and leaves values of its own below it. */
    private static final int[] SECOND = {0x41, 9, 0x20, 0, 0x20, 1, 0x6B, 0x0F, 0x0B};

    private static int bodies = 0;
    private static int rightBodies = 0;
    private static int differences = 0;

    public static void main(String[] args) {
        int longest = args.length > 0 ? Integer.parseInt(args[0]) : LONGEST;
        for (int results = 0; results <= 1; results++) {
            lengthen(new int[0], longest, results);
        }
        Check.same("5, 6, 10, 13, 14: differences", differences, 0);
        Check.isTrue("many bodies were asked", bodies > 10000);
        Check.isTrue("many of them were right", rightBodies > 500);
        System.out.println("ShortBodiesTest: " + bodies + " bodies, " + rightBodies + " of them right");
        Check.finish("ShortBodiesTest");
    }

    private static void lengthen(int[] body, int more, int results) {
        for (int i = 0; i < INSTRUCTIONS.length && more > 0 && differences < 20; i++) {
            int[] longer = Check.join(body, INSTRUCTIONS[i]);
            if (lacksEndsAlone(longer, results)) {
                lengthen(longer, more - 1, results);
            }
        }
    }

    private static boolean lacksEndsAlone(int[] body, int results) {
        bodies++;
        WasmCore x = classWith(body, results);
        Model m = modelWith(body, results);
        int error = m.validate();
        tell(body, results, "validate()", x.validate(), error);
        tell(body, results, "fault(0)", x.fault(0), m.fault(0));
        tell(body, results, "fault(1)", x.fault(1), m.fault(1));
        if (error == 0) {
            rightBodies++;
            for (int argument = 0; argument <= 2; argument++) {
                compareRun(body, results, argument);
            }
        }
        return error == 1 && m.fault(1) == body.length;
    }

    private static WasmCore classWith(int[] body, int results) {
        return Check.fed(Check.fed(new WasmCore(), 1, 0, results, body), 2, 0, 1, SECOND);
    }

    private static Model modelWith(int[] body, int results) {
        Model m = new Model();
        bring(m, 1, results, body);
        bring(m, 2, 1, SECOND);
        return m;
    }

    private static void bring(Model m, int parameters, int results, int[] body) {
        for (int word : body) {
            m.word(word);
        }
        m.declare(parameters, 0, results);
    }

    /** With objects of its own for each argument, as only 512 calls are promised to an object. */
    private static void compareRun(int[] body, int results, int argument) {
        WasmCore x = classWith(body, results);
        Model m = modelWith(body, results);
        x.validate();
        m.validate();
        x.argument(argument);
        m.argument(argument);
        x.invoke(0);
        m.invoke(0);
        for (int step = 1; step <= STEPS && m.look(0) == 2; step++) {
            tell(body, results, "run(1), step " + step, x.run(1), m.run(1));
            for (int which = 0; which <= 4; which++) {
                tell(body, results, "look(" + which + ") behind step " + step, x.look(which), m.look(which));
            }
            for (int k = 0; k < m.look(3); k++) {
                tell(body, results, "value(0, " + k + ") behind step " + step, x.value(0, k), m.value(0, k));
            }
        }
        if (m.look(0) == 3) {
            tell(body, results, "result()", x.result(), m.result());
        }
    }

    private static void tell(int[] body, int results, String what, long got, long due) {
        if (got != due) {
            differences++;
            System.out.println(Arrays.toString(body) + " with " + results + " results: " + what + " answered " + got
                    + ", due is " + due);
        }
    }
}
