import java.io.IOException;
import java.nio.file.Files;
import java.nio.file.Path;
import java.util.ArrayList;
import java.util.List;

/** The examples of README.md: what they answer, and that each of their lines is run here. */
final class ReadmeTest {
    private static final String RING = "t0: w a 1; r b r0;\nt1: w b 1; r a r0;\nexists (t0:r0 = 0 & t1:r0 = 0)\n";

    public static void main(String[] args) throws IOException {
        Rig.test("README, the examples answer as their comments say", ReadmeTest::answers);
        Rig.test("README, the examples run in a row", ReadmeTest::examples);
        String readme = Files.readString(Path.of("README.md"));
        String here = Files.readString(Path.of("src/test/java/ReadmeTest.java"));
        Rig.test("README, each line of an example is run in this test", () -> linesRun(readme, here));
        Rig.test("README, the ring's program", () ->
                Rig.due("it stands there", readme.contains("    " + RING.trim().replace("\n", "\n    ")) ? 1 : 0, 1));
        Rig.finish();
    }

    private static void answers() {
        LitmusRows x = new LitmusRows();
        Rig.due("the first feed", x.feed(0x74303A20, 0x77206120, 0x313B2072, 0x20622072), 16);
        Rig.due("the second feed", x.feed(0x303B0000, 0, 0, 0), 32);
        Rig.due("end(2)", x.end(2), 18);
        Rig.due("read()", x.read(), 2);
        Rig.due("its program", Rig.printed(x), "t0: w a 1; r b r0;\n");
        Rig.tell(x, 4, 1, 4, 1);
        Rig.due("make()", x.make(), 4);
        Rig.due("the ring's program", Rig.printed(x), RING);
        Rig.due("fences()", x.fences(), 2);
    }

    private static void examples() {
        LitmusRows x = new LitmusRows();
        x.feed(0x74303A20, 0x77206120, 0x313B2072, 0x20622072);
        x.feed(0x303B0000, 0, 0, 0);
        x.end(2);
        x.read();
        for (int kind : new int[] {4, 1, 4, 1}) {
            x.edge(kind);
        }
        x.make();
        x.fences();
        while (x.asked() != LitmusRows.NONE) {
            x.judge(forbids(x.asked()));
        }
        x.place(x.least(0));
        int bytes = x.print();
        for (int i = 0; i < bytes; i++) {
            System.out.print((char) x.out(i));
        }
        x.again();
        Rig.due("the fences are placed", Rig.printed(x), RING.replace("1; r", "1; f; r"));
        Rig.due("what was printed is the text", x.count(0), bytes);
        Rig.due("it is read", x.read(), 6);
    }

    /** Both threads of the ring need their fence. */
    private static boolean forbids(int set) {
        return set == 3;
    }

    private static void linesRun(String readme, String here) {
        for (String line : exampleLines(readme)) {
            Rig.due(line, here.contains("        " + line + "\n") ? 1 : 0, 1);
        }
    }

    private static List<String> exampleLines(String readme) {
        List<String> lines = new ArrayList<>();
        boolean inside = false;
        for (String line : readme.split("\n")) {
            if (line.startsWith("```")) {
                inside = line.equals("```java");
            } else if (inside) {
                lines.add(line.replaceAll(" *//.*", ""));
            }
        }
        return lines;
    }
}
