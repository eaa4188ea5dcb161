import java.io.ByteArrayOutputStream;
import java.io.IOException;
import java.io.PrintStream;
import java.nio.file.Files;
import java.nio.file.Path;

/** The example of README.md stands below word by word, and prints what README.md says. */
public final class ReadmeTest {
    private static final Path README = Path.of("README.md");
    private static final Path THIS = Path.of("src/test/java/ReadmeTest.java");

    public static void main(String[] args) throws IOException {
        Check.same("the example", between(THIS, "// as in README.md", "// so far"), between(README, "```java", "```"));
        Check.same("what it prints", printed(), between(README, "```text", "```"));
        Check.end("ReadmeTest");
    }

    /** The lines from the first one that is begin up to the next one that is end, without their indentation. */
    private static String between(Path file, String begin, String end) throws IOException {
        StringBuilder found = new StringBuilder();
        boolean inside = false;
        for (String line : Files.readAllLines(file)) {
            if (inside && line.strip().equals(end)) {
                return found.toString();
            }
            if (inside) {
                found.append(line.strip()).append('\n');
            }
            inside |= line.strip().equals(begin);
        }
        return "no " + begin + " up to " + end + " in " + file;
    }

    private static String printed() {
        PrintStream before = System.out;
        ByteArrayOutputStream bytes = new ByteArrayOutputStream();
        System.setOut(new PrintStream(bytes, true));
        example();
        System.setOut(before);
        return bytes.toString().replace(System.lineSeparator(), "\n");
    }

    private static void example() {
        // as in README.md
        StateExplore x = new StateExplore(2, 1000);        // two nodes, room for 1000 wholes
        int idle = 0;                                      // state 0 is there from the start
        int busy = x.state();
        int hello = x.message();
        int greet = x.rule(idle, StateExplore.NONE, busy); // by itself ..
        x.sends(greet, hello, 1);                          // .. and tells all other nodes
        x.rule(busy, hello, idle);                         // by a message
        x.bad(busy, busy);                                 // two busy nodes are bad

        if (x.run() == -2) {                               // -2 bad, -1 no room, else how many wholes
            for (int i = 0; i <= x.way(); i++) {
                int k = x.wayAt(i);
                System.out.println("whole " + k + ": states " + x.node(k, 0) + " " + x.node(k, 1)
                        + ", " + x.whole(k, 0) + " on their way, by rule " + x.whole(k, 3));
            }
        }
        // so far
    }
}
