/** The boundary cases of promises 1 to 7, each sentence of the document with a test of its own. */
public final class IntakeLimitsTest {
    private static final String STATE = "IllegalStateException";
    private static final String ARGUMENT = "IllegalArgumentException";
    private static final int LEAST = Integer.MIN_VALUE;
    private static final int MOST = Integer.MAX_VALUE;

    public static void main(String[] args) {
        codeIsAtFirstEmpty();
        feedOfOneToEight();
        feedGivesWordsOf0To255();
        feedUpTo240();
        feedIntoEachNumberOfWords();
        wordUpTo240();
        everyIntIsAWord();
        declareTakesOneWordOrMore();
        declareTakesTheNumbersAsSaid();
        declareUpToSixFunctions();
        bodiesBeginBehindEachOther();
        validateNeedsAFunctionAndNoWordBehind();
        validateAtTheLastWord();
        faultFromTheFirstToTheLastPlace();
        faultOfTheLatestError();
        clearIsANewObject();
        clearTakesAwayWhatWasFull();
        Check.finish("IntakeLimitsTest");
    }

    private static void nops(WasmCore x, int count) {
        Check.feed(x, Check.repeat(count, 0x01));
    }

    /** "An OPEN module without code; memory and globals 0"; "at first empty"; "1 at first". */
    private static void codeIsAtFirstEmpty() {
        Check.sameText("1: a new object", Seen.looks(new WasmCore()), "0 0 -1 0 0 1 0 fault -1 -1"
                + " result IllegalStateException values 0 IndexOutOfBoundsException values 1 IndexOutOfBoundsException"
                + " values 2 0 0 0 0 IndexOutOfBoundsException memory" + " 0".repeat(64) + " -1");
        Check.sameText("1: nothing runs, waits or is declared", Seen.goesOn(new WasmCore()),
                " steps 0 status 0 trap 0 result IllegalStateException stopped false"
                + " declare IllegalStateException validate IllegalStateException fault -1 -1" + nothingOf(0)
                + " arguments 1 2 3 4 -1" + nothingOf(0) + nothingOf(1) + nothingOf(2) + nothingOf(3) + nothingOf(4)
                + nothingOf(5) + nothingOf(6) + " global 0 global 0 global 0 global 0 pages 1 words 0");
    }

    private static String nothingOf(int f) {
        return " function " + f + " IllegalStateException steps 0 status 0 trap 0 result IllegalStateException"
                + " stopped false";
    }

    /** "The n lowest bytes of words, the highest first": 1 and 8 are allowed, and all between; 0 and 9 are not. */
    private static void feedOfOneToEight() {
        int[] code = {0x41, 1, 0x41, 2, 0x6A, 0x41, 200, 0x6C, 0x41, 7, 0x6B, 0x24, 0, 0x41, 255, 0x24, 1,
            0x41, 128, 0x24, 2, 0x01, 0x01, 0x0B};
        for (int n = 1; n <= 8; n++) {
            WasmCore x = new WasmCore();
            for (int at = 0; at < code.length; at += n) {
                int count = Math.min(n, code.length - at);
                // the bytes above the lowest ones are no part of it
                long words = 0x9182A3C4D5E6F7FFL;
                for (int i = 0; i < count; i++) {
                    words = words << 8 | code[at + i];
                }
                Check.same("2: feed of " + count, x.feed(count, words), at + count);
            }
            Check.same("2: what was fed, " + n + " at a time", x.declare(0, 0, 0), 0);
            Check.checked(x);
            x.invoke(0);
            x.run(500);
            Check.same("2: (1 + 2) * 200 - 7", x.value(2, 0), 593);
            Check.same("2: 255", x.value(2, 1), 255);
            Check.same("2: 128", x.value(2, 2), 128);
        }
        for (int n : new int[] {0, 9, -1, 10, LEAST, MOST}) {
            Seen.refused("2: feed(" + n + ", -1)", ARGUMENT, x -> nops(x, 3), x -> x.feed(n, -1L));
        }
    }

    /** "as words 0 .. 255". */
    private static void feedGivesWordsOf0To255() {
        for (int b = 0; b <= 255; b++) {
            WasmCore x = new WasmCore();
            x.feed(3, 0xFFFFFFFFFF41000BL | (long) b << 8);
            x.declare(0, 0, 1);
            Check.checked(x);
            Check.same("2: byte " + b + " in the middle", Check.resultOf(x, 0), b);
            x.clear();
            x.feed(1, 0x41);
            x.feed(8, (long) b << 56 | 0x0101010101010BL);
            x.declare(0, 0, 1);
            Check.checked(x);
            Check.same("2: byte " + b + " as the highest", Check.resultOf(x, 0), b);
            x.clear();
            x.feed(2, 0x4100L | b);
            x.feed(1, 0x0B);
            x.declare(0, 0, 1);
            Check.checked(x);
            Check.same("2: byte " + b + " as the lowest", Check.resultOf(x, 0), b);
        }
    }

    /** "IllegalStateException if .. there would be more than 240": each n up to 240, and from one word more. */
    private static void feedUpTo240() {
        for (int n = 1; n <= 8; n++) {
            int count = n;
            WasmCore x = new WasmCore();
            nops(x, 240 - n);
            Check.same("2: feed(" + n + ") up to 240", x.feed(n, 0x010101010101010BL), 240);
            Check.same("2: 240 words", x.look(6), 240);
            Check.same("2: they can be declared", x.declare(0, 0, 0), 0);
            Check.same("2: and are right", x.validate(), 0);
            x.invoke(0);
            Check.same("2: and run", x.run(500), 240);
            Seen.refused("2: feed(" + n + ") up to 241", STATE, y -> nops(y, 241 - count), y -> y.feed(count, 0x0BL));
        }
    }

    /** As before, for all numbers of words near the limit: what is refused adds not even a part of the words. */
    private static void feedIntoEachNumberOfWords() {
        for (int words = 230; words <= 240; words++) {
            for (int n = 1; n <= 8; n++) {
                WasmCore x = new WasmCore();
                nops(x, words);
                int count = n;
                boolean fits = words + n <= 240;
                Check.sameText("2: feed(" + n + ") with " + words, Seen.answer(x, y -> y.feed(count, 0)),
                        fits ? Integer.toString(words + n) : STATE);
                Check.same("2: and then", x.look(6), fits ? words + n : words);
            }
        }
    }

    /** "IllegalStateException if .. there are 240". */
    private static void wordUpTo240() {
        WasmCore x = new WasmCore();
        nops(x, 239);
        Check.same("3: the last word", x.word(0x0B), 240);
        Check.same("3: 240 words", x.look(6), 240);
        x.declare(0, 0, 0);
        Check.checked(x);
        x.invoke(0);
        x.run(239);
        Check.same("3: the last word is next", x.look(2), 239);
        Check.same("3: and is the run's end", x.run(500), 1);
        Check.same("3: DONE", x.look(0), 3);
        Seen.refused("3: a word more", STATE, y -> nops(y, 240), y -> y.word(0x0B));
        Seen.refused("3: a word more, all declared", STATE, y -> {
            nops(y, 240);
            y.declare(0, 0, 0);
        }, y -> y.word(0x0B));
    }

    /** "WORDS (ints)": a word is kept whole. */
    private static void everyIntIsAWord() {
        for (int bit = 0; bit < 32; bit++) {
            for (int word : new int[] {1 << bit, ~(1 << bit), -1 << bit, -1 >>> bit}) {
                WasmCore y = Check.checked(Check.single(0, 0, 1, 0x41, word, 0x0B));
                Check.same("3: word " + word, Check.resultOf(y, 0), word);
            }
        }
    }

    /** "All words behind the last body, one or more"; "IllegalStateException if .. there is no such word". */
    private static void declareTakesOneWordOrMore() {
        for (int count : new int[] {1, 2, 239, 240}) {
            WasmCore x = new WasmCore();
            nops(x, count - 1);
            x.word(0x0B);
            Check.same("4: a body of " + count, x.declare(0, 0, 0), 0);
            Check.checked(x);
            x.invoke(0);
            Check.same("4: it has " + count + " words", x.run(500), count);
        }
        Seen.refused("4: no word at all", STATE, x -> { }, x -> x.declare(0, 0, 0));
        Seen.refused("4: no word behind the last body", STATE, State::module, x -> x.declare(0, 0, 0));
        Seen.refused("4: no word behind the last body, 240 in all", STATE, x -> {
            nops(x, 240);
            x.declare(0, 0, 0);
        }, x -> x.declare(0, 0, 0));
        Seen.refused("4: no word behind clear()", STATE, x -> {
            x.word(0x0B);
            x.clear();
        }, x -> x.declare(0, 0, 0));
    }

    /** "each has 0 .. 4 parameters, 0 .. 4 further locals, 0 or 1 results". */
    private static void declareTakesTheNumbersAsSaid() {
        for (int p = -1; p <= 5; p++) {
            for (int l = -1; l <= 5; l++) {
                for (int r = -1; r <= 2; r++) {
                    declareTakes(p, l, r);
                }
            }
        }
        int[] far = {LEAST, MOST, -256, 256};
        for (int n : far) {
            Seen.refused("4: declare(" + n + ", 0, 0)", ARGUMENT, x -> x.word(0x0B), x -> x.declare(n, 0, 0));
            Seen.refused("4: declare(0, " + n + ", 0)", ARGUMENT, x -> x.word(0x0B), x -> x.declare(0, n, 0));
            Seen.refused("4: declare(0, 0, " + n + ")", ARGUMENT, x -> x.word(0x0B), x -> x.declare(0, 0, n));
        }
    }

    private static void declareTakes(int p, int l, int r) {
        String what = "4: declare(" + p + ", " + l + ", " + r + ")";
        int[] body = r == 1 ? new int[] {0x41, 5, 0x0B} : new int[] {0x0B};
        if (p < 0 || p > 4 || l < 0 || l > 4 || r < 0 || r > 1) {
            Seen.refused(what, ARGUMENT, x -> Check.feed(x, body), x -> x.declare(p, l, r));
            return;
        }
        WasmCore x = new WasmCore();
        Check.feed(x, body);
        Check.same(what, x.declare(p, l, r), 0);
        Check.checked(x);
        Check.invoke(x, 0, new int[p]);
        for (int k = 0; k < p + l; k++) {
            Check.same(what + ", local " + k, x.value(1, k), 0);
        }
        Check.sameText(what + ", one local more", Seen.answer(x, y -> y.value(1, p + l)), "IndexOutOfBoundsException");
        x.run(500);
        Check.same(what + ", its result", x.result(), 5 * r);
    }

    /** "FUNCTIONS are 0 .. 5"; "IllegalStateException if .. there are 6". */
    private static void declareUpToSixFunctions() {
        WasmCore x = new WasmCore();
        for (int f = 0; f <= 5; f++) {
            x.feed(3, 0x41000BL | f << 8);
            Check.same("4: function " + f, x.declare(0, 0, 1), f);
        }
        Check.checked(x);
        for (int f = 0; f <= 5; f++) {
            Check.same("4: result of " + f, Check.resultOf(x, f), f);
        }
        Seen.Story six = y -> {
            for (int f = 0; f <= 5; f++) {
                Check.fed(y, 0, 0, 0, 0x0B);
            }
            y.word(0x0B);
        };
        Seen.refused("4: a seventh function", STATE, six, y -> y.declare(0, 0, 0));
        Seen.refused("4: words for a seventh function", STATE, six, y -> y.validate());
    }

    /** "the first body begins at word 0, each next one behind the one before". */
    private static void bodiesBeginBehindEachOther() {
        int[] lengths = {1, 7, 100, 2, 90, 40};
        WasmCore x = new WasmCore();
        int begin = 0;
        for (int length : lengths) {
            Check.fed(x, 0, 0, 0, Check.join(Check.repeat(length - 1, 0x01), new int[] {0x0B}));
        }
        Check.checked(x);
        for (int f = 0; f < lengths.length; f++) {
            x.invoke(f);
            Check.same("4: body " + f + " begins", x.look(2), begin);
            Check.same("4: body " + f + " ends", x.run(500), lengths[f]);
            begin += lengths[f];
        }
        Check.same("4: all words", begin, 240);
    }

    /** "IllegalStateException if it is not OPEN or there is no function, or there are words behind the last body". */
    private static void validateNeedsAFunctionAndNoWordBehind() {
        Seen.refused("5: no function", STATE, x -> { }, WasmCore::validate);
        Seen.refused("5: words and no function", STATE, x -> x.word(0x0B), WasmCore::validate);
        Seen.Story one = x -> Check.fed(x, 0, 0, 0, 0x0B);
        Check.sameText("5: one function", Seen.answer(Seen.told(one), WasmCore::validate), "0");
        Seen.refused("5: one word behind the last body", STATE, x -> {
            one.tell(x);
            x.word(0x0B);
        }, WasmCore::validate);
        Seen.refused("5: a word behind the last body that could be no body", STATE, x -> {
            one.tell(x);
            x.word(0x7F);
        }, WasmCore::validate);
        Seen.refused("5: when READY", STATE, State::ready, WasmCore::validate);
        Seen.refused("5: no function behind clear()", STATE, x -> {
            State.module(x);
            x.clear();
        }, WasmCore::validate);
        // an ERROR leaves it OPEN: the words stay, more can come, and the same ERROR is found again
        Seen.Story faulty = x -> Check.fed(x, 0, 0, 0, 0x1A, 0x0B);
        Seen.same("5: validate() once or twice with an ERROR", x -> {
            faulty.tell(x);
            x.validate();
        }, WasmCore::validate, faulty, WasmCore::validate);
    }

    /** Instructions whose immediates would stand behind word 239. */
    private static void validateAtTheLastWord() {
        int[] withOne = {0x02, 0x03, 0x04, 0x0C, 0x0D, 0x0E, 0x10, 0x20, 0x21, 0x22, 0x23, 0x24, 0x28, 0x2C, 0x2D, 0x2E,
            0x2F, 0x36, 0x3A, 0x3B, 0x41};
        for (int op : withOne) {
            atTheEnd("immediate of " + op + " is behind the last word", 1, 239, op);
        }
        for (int n = 0; n <= 8; n++) {
            int[] table = new int[2 + n];
            table[0] = 0x0E;
            table[1] = n;
            atTheEnd("the last label of br_table " + n, 1, 238 - n, table);
        }
        atTheEnd("n of br_table before its labels", 5, 238, 0x0E, 9);
        atTheEnd("n of br_table before its labels", 5, 238, 0x0E, -1);
        atTheEnd("n of br_table before its labels", 5, 238, 0x0E, MOST);
        // br_table 8 with its nine labels up to word 238, and the end at 239
        WasmCore x = new WasmCore();
        nops(x, 226);
        Check.feed(x, 0x41, 8, 0x0E, 8, 0, 0, 0, 0, 0, 0, 0, 0, 0, 0x0B);
        Check.same("5: 240 words", x.look(6), 240);
        x.declare(0, 0, 0);
        Check.checked(x);
        x.invoke(0);
        Check.same("10: br_table at the end of the code", x.run(500), 228);
        Check.same("10: DONE", x.look(0), 3);
    }

    private static void atTheEnd(String what, int error, int place, int... last) {
        WasmCore x = new WasmCore();
        nops(x, 240 - last.length);
        Check.feed(x, last);
        x.declare(0, 0, 0);
        Check.same("5: " + what, x.validate(), error);
        Check.same("6: " + what + ", the function", x.fault(0), 0);
        Check.same("6: " + what + ", the place", x.fault(1), place);
    }

    /** "w = 0: the function, 1: the PLACE"; "for an end that is not there, the word behind the body". */
    private static void faultFromTheFirstToTheLastPlace() {
        faulty("the first word", 0, 0, 1, 0x7F);
        WasmCore x = new WasmCore();
        nops(x, 240);
        x.declare(0, 0, 0);
        Check.same("5: no end in 240 words", x.validate(), 1);
        Check.same("6: its place is behind the last word", x.fault(1), 240);
        WasmCore y = new WasmCore();
        nops(y, 239);
        y.word(0x7F);
        y.declare(0, 0, 0);
        Check.same("5: the last word is no instruction", y.validate(), 1);
        Check.same("6: its place is the last word", y.fault(1), 239);
        for (int f = 0; f <= 5; f++) {
            WasmCore z = new WasmCore();
            for (int g = 0; g <= 5; g++) {
                Check.fed(z, 0, 0, 0, 0x01, g == f ? 0x1A : 0x01, 0x0B);
            }
            Check.same("5: function " + f + " is faulty", z.validate(), 2);
            Check.same("6: the function", z.fault(0), f);
            Check.same("6: the place", z.fault(1), 3 * f + 1);
            Check.same("6: fault(2)", z.fault(2), -1);
            Check.same("6: fault(-1)", z.fault(-1), -1);
        }
    }

    private static void faulty(String what, int function, int place, int error, int... words) {
        WasmCore x = Check.single(0, 0, 0, words);
        Check.same("5: " + what, x.validate(), error);
        Check.same("6: " + what + ", the function", x.fault(0), function);
        Check.same("6: " + what + ", the place", x.fault(1), place);
    }

    /** "Of the latest validate() that answered an ERROR"; "NONE if there was none (since clear())". */
    private static void faultOfTheLatestError() {
        WasmCore x = new WasmCore();
        // each function calls the next one, which is not there yet
        for (int f = 0; f < 5; f++) {
            Check.fed(x, 0, 0, 0, 0x10, f + 1, 0x0B);
            Check.same("5: function " + (f + 1) + " is not there", x.validate(), 5);
            Check.same("6: the function", x.fault(0), f);
            Check.same("6: the place", x.fault(1), 3 * f);
        }
        Check.sameText("5: a validate() that throws", Seen.answer(x, y -> {
            y.word(0x0B);
            return y.validate();
        }), STATE);
        Check.same("6: leaves the fault", x.fault(1), 12);
        x.declare(0, 0, 0);
        Check.checked(x);
        Check.same("6: a validate() without an ERROR leaves it", x.fault(0), 4);
        Check.same("6: and its place", x.fault(1), 12);
        x.clear();
        Check.same("6: none since clear()", x.fault(0), -1);
        Check.same("6: none since clear()", x.fault(1), -1);
        Check.fed(x, 0, 0, 0, 0x0B);
        Check.checked(x);
        Check.same("6: none behind a right module", x.fault(0), -1);
        Check.same("6: none behind a right module", x.fault(1), -1);
    }

    /** "An OPEN module without code; memory, globals, arguments as at first", from every state. */
    private static void clearIsANewObject() {
        for (State state : State.ALL) {
            Seen.Ask clear = x -> {
                x.clear();
                return 0;
            };
            Seen.same("7: clear() of " + state.name(), state.story(), clear, x -> { }, Seen.NOTHING);
            Seen.Ask again = x -> {
                x.clear();
                State.ready(x);
                return 0;
            };
            Seen.same("7: clear() of " + state.name() + " and a new module", state.story(), again,
                    State::ready, Seen.NOTHING);
        }
    }

    /** The limits are free again behind clear(). */
    private static void clearTakesAwayWhatWasFull() {
        WasmCore x = new WasmCore();
        for (int round = 0; round < 3; round++) {
            for (int f = 0; f < 5; f++) {
                Check.fed(x, 0, 0, 0, 0x0B);
            }
            nops(x, 234);
            Check.same("7: 240 words again", x.word(0x0B), 240);
            Check.same("7: six functions again", x.declare(0, 0, 0), 5);
            for (int i = 1; i <= 4; i++) {
                Check.same("7: four arguments again", x.argument(i), i);
            }
            x.clear();
        }
        // four pages, all bytes set, and all globals
        Check.fed(x, 0, 0, 0, 0x41, 3, 0x40, 0x24, 0, 0x41, 1, 0x24, 1, 0x41, 2, 0x24, 2, 0x41, 3, 0x24, 3, 0x0B);
        Check.checked(x);
        x.invoke(0);
        x.run(500);
        for (int a = 0; a < 256; a += 3) {
            x.poke(a, 255);
        }
        x.poke(255, 255);
        x.clear();
        Check.same("7: one page", x.look(5), 1);
        for (int k = 0; k < 4; k++) {
            Check.same("7: global " + k, x.value(2, k), 0);
        }
        Check.fed(x, 0, 0, 1, 0x41, 3, 0x40, 0x0B);
        Check.checked(x);
        Check.same("7: three pages more again", Check.resultOf(x, 0), 1);
        for (int a = 0; a < 256; a += 3) {
            Check.same("7: byte " + a, x.peek(a), 0);
        }
        Check.same("7: byte 255", x.peek(255), 0);
    }
}
