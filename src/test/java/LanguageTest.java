import java.lang.reflect.Array;
import java.lang.reflect.Field;
import java.lang.reflect.Modifier;
import java.nio.file.Files;
import java.nio.file.Path;
import java.util.ArrayList;
import java.util.Collections;
import java.util.IdentityHashMap;
import java.util.List;
import java.util.Set;
import java.util.regex.Matcher;
import java.util.regex.Pattern;

/** The rules of LANGUAGE.md that show in the source, and the room that an object takes; FaceTest has rules 1 and 5. */
public final class LanguageTest {
    /** Of what rule 4 leaves, that which the class uses: for a function more, the rule is to be asked first. */
    private static final Set<String> LIBRARY = Set.of("Arrays.fill", "System.arraycopy", "Integer.compareUnsigned",
            "Integer.toUnsignedLong", "Integer.numberOfLeadingZeros", "Integer.numberOfTrailingZeros", "Integer.bitCount");
    /** Those of rule 6 that the document names. */
    private static final Set<String> EXCEPTIONS = Set.of("IllegalStateException", "IllegalArgumentException",
            "IndexOutOfBoundsException");
    private static final String[] RULED_OUT = {"package", "protected", "finally", "synchronized", "assert", "getMessage",
        "hashCode", "toString"};
    private static final int MOST_LINES = 60;
    private static final int MOST_PARAMETERS = 7;

    private static String source;

    public static void main(String[] args) throws Exception {
        source = withoutTexts(Files.readString(Path.of("src/main/java/WasmCore.java")));
        theWords();
        theLibrary();
        theThrows();
        theMethods();
        theRoom();
        noCallTakesRoom();
        Check.finish("LanguageTest");
    }

    /** The lines stay where they are. */
    private static String withoutTexts(String all) {
        Matcher m = Pattern.compile("/\\*.*?\\*/|//[^\n]*|\"[^\"\n]*\"", Pattern.DOTALL).matcher(all);
        return m.replaceAll(found -> found.group().startsWith("\"") ? "0" : found.group().replaceAll("[^\n]", ""));
    }

    private static List<String> found(String pattern) {
        List<String> all = new ArrayList<>();
        Matcher m = Pattern.compile(pattern, Pattern.MULTILINE).matcher(source);
        while (m.find()) {
            all.add(m.group(m.groupCount() > 0 ? 1 : 0));
        }
        return all;
    }

    private static void theWords() {
        for (String word : RULED_OUT) {
            Check.same("rules 1, 6: " + word, found("\\b" + word + "\\b").size(), 0);
        }
        Check.same("rule 2: lambdas and method references", found("->|::").size(), 0);
        Check.same("rule 5: static initialiser blocks", found("\\bstatic\\s*\\{").size(), 0);
        Check.sameText("rule 4: imports", found("^import .*$").toString(), "[import java.util.Arrays;]");
    }

    private static void theLibrary() {
        for (String call : found("\\b((?:Arrays|System|Integer|Long|Math)\\.\\w+)")) {
            Check.isTrue("rule 4: " + call, LIBRARY.contains(call));
        }
    }

    private static void theThrows() {
        List<String> thrown = found("\\bthrow\\b");
        List<String> named = found("\\bthrow new (\\w+)\\(0?\\);");
        Check.same("rule 6: each throw makes an exception with a written text", named.size(), thrown.size());
        for (String name : named) {
            Check.isTrue("rule 6: " + name, EXCEPTIONS.contains(name));
        }
        Check.same("rule 12: all else that is made is made by a constructor or a field",
                found("\\bnew\\b").size() - named.size(), found("^ +(?:private |final )*\\w+(?:\\[\\])? \\w+ = new .*;$").size()
                + found("^ +\\w+ = new .*;$").size());
    }

    private static void theMethods() {
        String[] lines = source.split("\n", -1);
        Pattern head = Pattern.compile("^( +)(?:(?:public|private|static|final) )*(?:\\w+(?:\\[\\])? )?\\w+\\(([^)]*)\\)?[^;]*$");
        int methods = 0;
        for (int i = 0; i < lines.length; i++) {
            Matcher m = head.matcher(lines[i]);
            if (!m.matches() || lines[i].matches(" +(?:if|for|while|switch|return|else)\\b.*") || m.group(1).length() > 8) {
                continue;
            }
            int last = i;
            while (last < lines.length - 1 && !lines[last].equals(m.group(1) + "}")) {
                last++;
            }
            methods++;
            Check.isTrue("rule 11: lines of " + lines[i].trim(), last - i + 1 <= MOST_LINES);
            Check.isTrue("rule 11: parameters of " + lines[i].trim(), m.group(2).split(",").length <= MOST_PARAMETERS);
        }
        Check.isTrue("the methods were found", methods > 80);
    }

    /** Some 600,000 objects and 7.3 million fields and elements are there for all objects of a run. */
    private static void theRoom() throws Exception {
        int[] fresh = sizeOf(new WasmCore());
        Check.isTrue("objects and arrays: " + fresh[0], fresh[0] <= 30);
        Check.isTrue("fields and elements: " + fresh[1], fresh[1] <= 2000);
        for (State state : State.ALL) {
            int[] used = sizeOf(Seen.told(state.story()));
            Check.same("objects in state " + state.name(), used[0], fresh[0]);
            Check.same("fields and elements in state " + state.name(), used[1], fresh[1]);
        }
    }

    private static int[] sizeOf(WasmCore x) throws Exception {
        int[] sums = {0, 0};
        count(x, Collections.newSetFromMap(new IdentityHashMap<>()), sums);
        return sums;
    }

    private static void count(Object o, Set<Object> seen, int[] sums) throws Exception {
        if (o == null || !seen.add(o)) {
            return;
        }
        sums[0]++;
        if (o.getClass().isArray()) {
            sums[1] += Array.getLength(o);
            Check.isTrue("only rows of numbers", o.getClass().getComponentType().isPrimitive());
            return;
        }
        for (Field f : o.getClass().getDeclaredFields()) {
            if (!Modifier.isStatic(f.getModifiers())) {
                sums[1]++;
                f.setAccessible(true);
                if (!f.getType().isPrimitive()) {
                    count(f.get(o), seen, sums);
                }
            }
        }
    }

    /** The least of some trials: the virtual machine may take room of its own at the first ones. */
    private static void noCallTakesRoom() {
        var threads = (com.sun.management.ThreadMXBean) java.lang.management.ManagementFactory.getThreadMXBean();
        long least = Long.MAX_VALUE;
        for (int trial = 0; trial < 20; trial++) {
            WasmCore x = new WasmCore();
            long before = threads.getCurrentThreadAllocatedBytes();
            useAll(x);
            least = Math.min(least, threads.getCurrentThreadAllocatedBytes() - before);
        }
        // What the measuring itself takes.
        long before = threads.getCurrentThreadAllocatedBytes();
        long own = threads.getCurrentThreadAllocatedBytes() - before;
        Check.isTrue("rule 12: calls took " + least + " bytes", least <= own);
    }

    /** All calls but result(), each answering: an exception takes room. */
    private static void useAll(WasmCore x) {
        for (int round = 0; round < 12; round++) {
            x.word(0x6A);
            x.declare(0, 0, 0);
            x.validate();
            x.fault(1);
            x.clear();
            x.feed(7, 0x20002201100024L);
            x.feed(2, 0x000B);
            x.declare(1, 1, 0);
            x.clear();
            // It calls itself till the seventh call traps.
            x.feed(5, 0x200010000BL);
            x.declare(1, 0, 1);
            x.validate();
            x.argument(round);
            x.invoke(0);
            x.run(3);
            x.look(2);
            x.value(0, 0);
            x.run(500);
            x.look(1);
            x.argument(1);
            x.invoke(0);
            x.stop();
            x.peek(7);
            x.poke(7, round);
            x.clear();
        }
    }
}
