/**
 * All that can be seen of an object from outside: what the calls that look tell, and what the calls that come later
 * answer. Both are asked of objects that nobody else uses, as looking at all takes most of an object's 512 calls.
 */
final class Seen {
    private Seen() {
    }

    /** A run of calls that brings a new object to a state. */
    interface Story {
        void tell(WasmCore x);
    }

    /** The call in question. */
    interface Ask {
        long of(WasmCore x);
    }

    static final Ask NOTHING = x -> 0;

    static WasmCore told(Story story) {
        WasmCore x = new WasmCore();
        story.tell(x);
        return x;
    }

    /** The answer as a number, or the exception's name. */
    static String answer(WasmCore x, Ask ask) {
        try {
            return Long.toString(ask.of(x));
        } catch (RuntimeException e) {
            return e.getClass().getSimpleName();
        }
    }

    /** The call answers what is due, and nothing is to be seen of it then. */
    static void refused(String what, String due, Story story, Ask ask) {
        Check.sameText(what, answer(told(story), ask), due);
        same(what + ", and then", story, ask, story, NOTHING);
    }

    /** Behind each story and its call, the same is to be seen. */
    static void same(String what, Story one, Ask ofOne, Story other, Ask ofOther) {
        Check.sameText(what + " by looking", looks(behind(one, ofOne)), looks(behind(other, ofOther)));
        Check.sameText(what + " by going on", goesOn(behind(one, ofOne)), goesOn(behind(other, ofOther)));
        Check.sameText(what + " by arguments", takesArguments(behind(one, ofOne)),
                takesArguments(behind(other, ofOther)));
    }

    private static WasmCore behind(Story story, Ask ask) {
        WasmCore x = told(story);
        answer(x, ask);
        return x;
    }

    /** What the calls that change nothing tell, byte for byte. */
    static String looks(WasmCore x) {
        StringBuilder all = new StringBuilder();
        for (int which = 0; which <= 6; which++) {
            all.append(x.look(which)).append(' ');
        }
        all.append("fault ").append(x.fault(0)).append(' ').append(x.fault(1));
        all.append(" result ").append(answer(x, WasmCore::result));
        for (int which = 0; which <= 2; which++) {
            all.append(" values ").append(which);
            int[] most = {101, 9, 5};
            String value = "";
            for (int k = 0; k < most[which] && !value.startsWith("Index"); k++) {
                int at = k;
                int kind = which;
                value = answer(x, y -> y.value(kind, at));
                all.append(' ').append(value);
            }
        }
        all.append(" memory");
        for (int a = 0; a <= 256; a++) {
            int found = x.peek(a);
            all.append(' ').append(found);
            if (found == WasmCore.NONE) {
                break;
            }
        }
        return all.toString();
    }

    /**
     * What the object answers from now on: how the run ends, whether there are words that are no body yet, what the
     * check says, which arguments wait and how many, and what each function does. To show the arguments that wait,
     * function 0 has to have four parameters; it is asked for before an argument more could take the place of one.
     */
    static String goesOn(WasmCore x) {
        StringBuilder all = new StringBuilder();
        tellRun(all, x);
        all.append(" declare ").append(answer(x, y -> y.declare(0, 0, 0)));
        all.append(" validate ").append(answer(x, WasmCore::validate));
        all.append(" fault ").append(x.fault(0)).append(' ').append(x.fault(1));
        tellFunction(all, x, 0);
        all.append(takesArguments(x));
        for (int f = 0; f <= 6; f++) {
            tellFunction(all, x, f);
        }
        for (int k = 0; k < 4; k++) {
            all.append(" global ").append(x.value(2, k));
        }
        all.append(" pages ").append(x.look(5)).append(" words ").append(x.look(6));
        return all.toString();
    }

    /** How many arguments wait, shown by those that are taken still. */
    static String takesArguments(WasmCore x) {
        StringBuilder all = new StringBuilder(" arguments");
        for (int i = 0; i < 5; i++) {
            all.append(' ').append(x.argument(90 + i));
        }
        return all.toString();
    }

    private static void tellFunction(StringBuilder all, WasmCore x, int f) {
        all.append(" function ").append(f).append(' ').append(answer(x, y -> invoked(y, f)));
        tellRun(all, x);
    }

    static long invoked(WasmCore x, int f) {
        x.invoke(f);
        return 0;
    }

    private static void tellRun(StringBuilder all, WasmCore x) {
        all.append(" steps ").append(x.run(500));
        all.append(" status ").append(x.look(0)).append(" trap ").append(x.look(1));
        all.append(" result ").append(answer(x, WasmCore::result));
        all.append(" stopped ").append(x.stop());
    }
}
