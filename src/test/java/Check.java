import java.util.Arrays;

/** What the tests share: counting wrong answers, and bringing code into an object. */
final class Check {
    private static int asked = 0;
    private static int wrong = 0;

    private Check() {
    }

    /** A call whose answer, as a number, or exception is looked at. */
    interface Call {
        long answer();
    }

    static void same(String what, long got, long due) {
        asked++;
        if (got != due) {
            wrong++;
            System.out.println(what + " answered " + got + ", due is " + due);
        }
    }

    static void sameText(String what, String got, String due) {
        asked++;
        if (!got.equals(due)) {
            wrong++;
            System.out.println(what + " answered " + got + ", due is " + due);
        }
    }

    static void isTrue(String what, boolean got) {
        same(what, got ? 1 : 0, 1);
    }

    static void isFalse(String what, boolean got) {
        same(what, got ? 1 : 0, 0);
    }

    static void fails(String what, Class<? extends RuntimeException> due, Call call) {
        asked++;
        String got;
        try {
            got = "answer " + call.answer();
        } catch (RuntimeException e) {
            if (e.getClass() == due) {
                return;
            }
            got = e.getClass().getSimpleName();
        }
        wrong++;
        System.out.println(what + " gave " + got + ", due is " + due.getSimpleName());
    }

    /** The last thing that a test's main method does. */
    static void finish(String test) {
        System.out.println(test + ": " + asked + " asked, " + wrong + " wrong");
        if (wrong != 0 || asked == 0) {
            System.exit(1);
        }
    }

    static WasmCore function(WasmCore x, int parameters, int locals, int results, int... words) {
        for (int word : words) {
            x.word(word);
        }
        x.declare(parameters, locals, results);
        return x;
    }

    /** As function, in few calls: up to eight words that are bytes are fed at once. */
    static WasmCore fed(WasmCore x, int parameters, int locals, int results, int... words) {
        feed(x, words);
        x.declare(parameters, locals, results);
        return x;
    }

    static void feed(WasmCore x, int... words) {
        int at = 0;
        while (at < words.length) {
            long packed = 0;
            int n = 0;
            while (n < 8 && at + n < words.length && (words[at + n] & ~255) == 0) {
                packed = packed << 8 | words[at + n];
                n++;
            }
            if (n == 0) {
                x.word(words[at]);
                at++;
            } else {
                x.feed(n, packed);
                at += n;
            }
        }
    }

    /** A new object with one function. */
    static WasmCore single(int parameters, int locals, int results, int... words) {
        return function(new WasmCore(), parameters, locals, results, words);
    }

    static WasmCore checked(WasmCore x) {
        same("validate()", x.validate(), 0);
        return x;
    }

    static void invoke(WasmCore x, int f, int... arguments) {
        for (int v : arguments) {
            x.argument(v);
        }
        x.invoke(f);
    }

    /** Runs to the end, at most 500 steps. */
    static int resultOf(WasmCore x, int f, int... arguments) {
        invoke(x, f, arguments);
        x.run(500);
        return x.result();
    }

    static int trapOf(WasmCore x, int f, int... arguments) {
        invoke(x, f, arguments);
        x.run(500);
        return x.look(1);
    }

    static int[] join(int[]... parts) {
        int[] all = new int[0];
        for (int[] part : parts) {
            int before = all.length;
            all = Arrays.copyOf(all, before + part.length);
            System.arraycopy(part, 0, all, before, part.length);
        }
        return all;
    }

    static int[] repeat(int times, int... part) {
        int[] all = new int[0];
        for (int i = 0; i < times; i++) {
            all = join(all, part);
        }
        return all;
    }

    private static final int[] ADDRESSES = {0, 1, 2, 3, 5, 62, 63, 64, 70, 127, 128, 191, 192, 255, 256};

    /** What the face tells of an object without changing it; in few calls, as only 512 are promised to an object. */
    static String stateOf(WasmCore x) {
        StringBuilder all = new StringBuilder();
        for (int which = 0; which <= 6; which++) {
            all.append(" look").append(which).append('=').append(x.look(which));
        }
        all.append(" fault=").append(x.fault(0)).append(',').append(x.fault(1));
        for (int which = 0; which <= 2; which++) {
            all.append(" values").append(which).append('=');
            for (int k = 0; k < 101; k++) {
                try {
                    all.append(x.value(which, k)).append(',');
                } catch (IndexOutOfBoundsException e) {
                    break;
                }
            }
        }
        all.append(" memory=");
        for (int a : ADDRESSES) {
            all.append(x.peek(a)).append(',');
        }
        try {
            all.append(" result=").append(x.result());
        } catch (IllegalStateException e) {
            all.append(" result=none");
        }
        return all.toString();
    }
}
