import java.io.File;
import java.io.IOException;
import java.lang.reflect.Method;
import java.lang.reflect.Modifier;
import java.nio.file.Files;
import java.nio.file.Path;

/** README.md's example answers what it says there, and README.md leaves out no call and no test. */
public final class ReadmeTest {
    private static final Path OWN_FILE = Path.of("src/test/java/ReadmeTest.java");

    public static void main(String[] args) throws IOException {
        String readme = Files.readString(Path.of("README.md"));
        example();
        exampleIsTheOneOf(readme);
        namesEveryCall(readme);
        namesEveryTest(readme);
        tellsTheCosts(readme);
        Due.end("ReadmeTest");
    }

    private static void example() {
        ThriftNode node = new ThriftNode();
        node.program(0, 0, 14 << 24 | 1 << 16 | 3 << 8);  // SENSE 1, 3: register 1 becomes the reading of sensor 3
        node.program(0, 1, 15 << 24 | 1 << 16);           // SEND 1: a frame with that payload
        node.program(0, 2, 0);                            // END 0: commits; task 0 is next again
        int fault = node.seal();                          // 0: there is none, and the node is sealed
        node.sense(3, 55);
        int first = node.slot(40);                        // NONE: it waits until it has 60 to boot
        int second = node.slot(200);                      // 16 steps: the task, and most of its commit
        int third = node.slot(200);                       // 16 steps: the rest, the frame on the air, the task again
        int payload = node.heard(0);                      // 55: the far side has the frame
        int commits = node.kept(1, false);                // 1
        Due.is("fault", fault, 0);
        Due.is("first", first, ThriftNode.NONE);
        Due.is("second", second, 16);
        Due.is("third", third, 16);
        Due.is("payload", payload, 55);
        Due.is("commits", commits, 1);
    }

    private static void exampleIsTheOneOf(String readme) throws IOException {
        int at = readme.indexOf("```java\n") + "```java\n".length();
        String shown = readme.substring(at, readme.indexOf("```", at));
        String own = Files.readString(OWN_FILE).replaceAll("(?m)^ {8}", "");
        Due.is("the example is longer than a line", shown.lines().count() > 1, true);
        Due.is("the example is the one above", own.contains(shown), true);
    }

    private static void namesEveryCall(String readme) {
        for (Method m : ThriftNode.class.getDeclaredMethods()) {
            if (Modifier.isPublic(m.getModifiers())) {
                Due.is("README.md has a row for " + m.getName(), readme.contains("| `" + m.getName() + "("), true);
            }
        }
    }

    private static void namesEveryTest(String readme) {
        File[] files = OWN_FILE.getParent().toFile().listFiles();
        Due.is("there are tests", files != null && files.length > 0, true);
        for (File file : files) {
            String name = file.getName().replace(".java", "");
            Due.is("README.md names " + name, readme.contains("`" + name + "`"), true);
        }
    }

    /** Asked of the class: what one instruction of each OP takes. */
    private static void tellsTheCosts(String readme) {
        for (int op = 0; op <= 17; op++) {
            ThriftNode x = new ThriftNode();
            x.program(0, 0, op << 24);
            x.program(0, 1, 0);
            x.seal();
            x.cut(1);
            x.slot(500);
            int cost = 440 - x.state(1);
            Due.is("README.md tells " + cost + " for OP " + op,
                readme.matches("(?s).*\\| " + op + " \\| [A-Z]+[^|]* \\| " + cost + " \\|.*"), true);
        }
    }
}
