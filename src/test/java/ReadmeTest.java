import java.nio.file.Files;
import java.nio.file.Path;
import java.util.List;

/** The example of README.md: it stands there as it is done here, and answers what it says there. */
public final class ReadmeTest {
    private static List<String> readme;
    private static int line;

    public static void main(String[] args) throws Exception {
        readme = Files.readAllLines(Path.of("README.md"));
        line = readme.indexOf("```java");
        Check.isTrue("README.md has an example", line >= 0);
        theExample();
        theTestsAreTold();
        Check.finish("ReadmeTest");
    }

    private static void theExample() {
        stands("WasmCore x = new WasmCore();", "");
        WasmCore x = new WasmCore();
        stands("x.feed(6, 0x200020016A0BL);", "// answers 6, the words so far: local.get 0, local.get 1, add, end");
        Check.same("feed", x.feed(6, 0x200020016A0BL), 6);
        stands("x.declare(2, 0, 1);", "// 2 parameters, no further locals, 1 result: answers 0, its number");
        Check.same("declare", x.declare(2, 0, 1), 0);
        stands("x.validate();", "// 0: no ERROR, it is READY (else fault(0) and fault(1) tell where)");
        Check.same("validate", x.validate(), 0);
        Check.same("look(0)", x.look(0), 1);
        stands("x.argument(2);", "");
        x.argument(2);
        stands("x.argument(3);", "");
        x.argument(3);
        stands("x.invoke(0);", "// it is RUNNING");
        x.invoke(0);
        Check.same("look(0)", x.look(0), 2);
        stands("x.run(500);", "// 4 steps done, it is DONE");
        Check.same("run", x.run(500), 4);
        Check.same("look(0)", x.look(0), 3);
        stands("x.result();", "// 5");
        Check.same("result", x.result(), 5);
        stands("```", "");
    }

    /** The next line of the example is this call and this remark, with any gap between them. */
    private static void stands(String call, String remark) {
        line++;
        String found = readme.get(line);
        int gap = found.indexOf("//");
        Check.sameText("call in line " + (line + 1), gap < 0 ? found : found.substring(0, gap).stripTrailing(), call);
        Check.sameText("remark in line " + (line + 1), gap < 0 ? "" : found.substring(gap), remark);
    }

    private static void theTestsAreTold() throws Exception {
        String all = String.join("\n", readme);
        Check.isTrue("README.md says how to run the tests", all.contains("\n.ci/run\n"));
        try (var files = Files.list(Path.of("src/test/java"))) {
            for (Path file : (Iterable<Path>) files::iterator) {
                String name = file.getFileName().toString().replace(".java", "");
                Check.isTrue("README.md tells of " + name, all.contains("`" + name + "`"));
            }
        }
    }
}
