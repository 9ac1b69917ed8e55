import java.io.IOException;
import java.nio.file.Files;
import java.nio.file.Path;
import java.util.ArrayList;
import java.util.List;

/** The example of README.md: its lines, with the answers that its comments tell. */
public final class ReadmeTest {
    private static final Check check = new Check("ReadmeTest");

    public static void main(String[] args) throws IOException {
        theExampleAnswersAsItSays();
        theExampleIsTheOneOfThisTest();
        check.finish();
    }

    private static void theExampleAnswersAsItSays() {
        ShadowWard ward = new ShadowWard(4096, 1024);
        int block = ward.allocate(0, 13, 7);
        check.same("allocate", block, 1040);
        check.yes("store", ward.store(block, 8, 42L));
        check.same("load", ward.load(block + 8, 8), 0);
        check.same("report(0, 0)", ward.report(0, 0), 1);
        check.same("report(0, 1)", ward.report(0, 1), block + 13);
        check.same("report(0, 5)", ward.report(0, 5), 0);
        check.same("lost", ward.lost(0, false), 0);
        int global = ward.global(4);
        check.same("global", global, 0);
        check.yes("store", ward.store(global, 4, block));
        check.same("lost", ward.lost(0, false), ShadowWard.NONE);
        check.yes("free", ward.free(0, block, 9));
        check.same("load", ward.load(block, 1), 0);
        check.same("report(1, 0)", ward.report(1, 0), 2);
        check.same("enter", ward.enter(5, 8, 0, 0), 864);
        int first = ward.variable(0, 0);
        check.same("variable", first, 896);
        check.no("fill", ward.fill(first, 6, 1));
        check.same("report(2, 0)", ward.report(2, 0), 4);
        check.same("leave", ward.leave(), 0);
        check.same("told(6)", ward.told(6), 3);
        check.illegalArgument(ward, "told(12)", () -> ward.told(12));
    }

    // Else a line of the example could be changed, and its answer not be looked at.
    private static void theExampleIsTheOneOfThisTest() throws IOException {
        String test = Files.readString(Path.of("src", "test", "java", "ReadmeTest.java"));
        List<String> calls = exampleCalls();
        check.same("lines of the example", calls.size(), 19);
        for (String call : calls) {
            check.yes("README.md's call is looked at: " + call, test.contains(call));
        }
    }

    private static List<String> exampleCalls() throws IOException {
        List<String> calls = new ArrayList<>();
        boolean inside = false;
        for (String line : Files.readAllLines(Path.of("README.md"))) {
            if (line.startsWith("```")) {
                inside = line.equals("```java");
            } else if (inside) {
                calls.add(line.substring(line.indexOf("= ") < 0 ? 0 : line.indexOf("= ") + 2, line.indexOf(';')));
            }
        }
        return calls;
    }
}
