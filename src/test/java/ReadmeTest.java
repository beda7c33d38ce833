import java.io.IOException;
import java.nio.file.Files;
import java.nio.file.Path;
import java.util.ArrayList;
import java.util.List;

/** The example of use that README.md gives: the same calls, in its order, with the answers that it tells. */
public final class ReadmeTest {
    private static final String MADE = "TwinHalves x = new TwinHalves(40, 2);";

    /** A call and its answer, as README.md and as this test has them. */
    private static final List<String> told = new ArrayList<>();
    private static final List<String> held = new ArrayList<>();

    public static void main(String[] args) throws IOException {
        readExample();
        Check.due("README.md's first line of code", told.isEmpty() ? "none" : told.remove(0), MADE);
        TwinHalves x = new TwinHalves(40, 2);
        actsOutside(x);
        looking(x);
        moving(x);
        faultOfAText(x);
        runOfAText(x);
        Check.due("the calls that README.md tells", told.size(), held.size());
        for (int i = 0; i < Math.min(told.size(), held.size()); i++) {
            Check.due("README.md's call " + i, told.get(i), held.get(i));
        }
        Check.end();
    }

    private static void actsOutside(TwinHalves x) {
        holds("x.act(3, 0, 2, 0)", x.act(3, 0, 2, 0), 0);
        holds("x.act(0, 1, 7, 0)", x.act(0, 1, 7, 0), 0);
        holds("x.act(9, 0, 0, 1)", x.act(9, 0, 0, 1), 0);
        holds("x.act(9, 0, 2, 1)", x.act(9, 0, 2, 1), 3);
        holds("x.act(0, 8, 7, 0)", x.act(0, 8, 7, 0), -1);
    }

    private static void looking(TwinHalves x) {
        holds("x.hand(0, 0)", x.hand(0, 0), 2);
        holds("x.hand(0, 1)", x.hand(0, 1), 2);
        holds("x.hand(0, 2)", x.hand(0, 2), 36);
        holds("x.slot(0, 0, 1)", x.slot(0, 0, 1), 7);
        holds("x.reach(0)", x.reach(0), 1);
        holds("x.reach(1)", x.reach(1), 4);
        holds("x.show(0)", x.show(0), 8);
        Check.due("TEXT", Check.text(x), "#1 [7 .]");
        holds("x.letter(3)", x.letter(3), 91);
        holds("x.letter(8)", x.letter(8), -1);
    }

    private static void moving(TwinHalves x) {
        holds("x.turn()", Boolean.toString(x.turn()), "true");
        holds("x.hand(0, 2)", x.hand(0, 2), 0);
        holds("x.memory(3)", x.memory(3), 1);
        holds("x.memory(0)", x.memory(0), 4);
        holds("x.turn()", Boolean.toString(x.turn()), "false");
        holds("x.pass(10)", x.pass(10), 4);
    }

    private static void faultOfAText(TwinHalves x) {
        feed(x);
        holds("x.end(16)", x.end(16), 16);
        holds("x.program()", x.program(), -17);
        holds("x.fault()", x.fault(), 2);
    }

    private static void runOfAText(TwinHalves x) {
        feed(x);
        holds("x.program()", x.program(), 2);
        holds("x.begin()", Check.begin(x).equals("0") ? "nothing" : "throws", "nothing");
        holds("x.run(5)", Check.run(x, 5), "0");
        holds("x.about(0)", x.about(0), 3);
        holds("x.about(1)", x.about(1), 1);
        holds("x.about(3)", x.about(3), 3);
        holds("x.act(0, 0, 5, 0)", x.act(0, 0, 5, 0), 0);
        holds("x.run(5)", Check.run(x, 5), "5");
        holds("x.about(0)", x.about(0), 1);
        holds("x.about(2)", x.about(2), 1);
        holds("x.about(6)", x.about(6), 3);
        holds("x.said(2)", Check.said(x, 2), "5");
        holds("x.said(3)", Check.said(x, 3).replace('.', ' '), "throws NoSuchElementException");
    }

    private static void feed(TwinHalves x) {
        holds("x.feed(0x6c3a2073, 0x61792061, 0x3b206a75, 0x6d70206c, 0x3b202020)",
                x.feed(0x6c3a2073, 0x61792061, 0x3b206a75, 0x6d70206c, 0x3b202020), 20);
    }

    private static void holds(String call, int got, int want) {
        holds(call, Integer.toString(got), Integer.toString(want));
    }

    private static void holds(String call, String got, String want) {
        Check.due(call, got, want);
        held.add(call + "; // " + want);
    }

    /** Of the code in README.md each call with its answer; what stands behind a : there only explains. */
    private static void readExample() throws IOException {
        boolean inside = false;
        for (String line : Files.readAllLines(Path.of("README.md"))) {
            if (line.startsWith("```")) {
                inside = line.equals("```java");
            } else if (inside && line.startsWith(MADE)) {
                told.add(MADE);
            } else if (inside && !line.isEmpty() && !line.startsWith("//")) {
                told.add(line.replaceFirst(" +//", " //").replaceFirst("(// [^:]*):.*", "$1"));
            }
        }
    }
}
