/** Promises 1 to 3: a new object, feed, end. */
public final class TapeTest {
    public static void main(String[] args) {
        newObject();
        nearestSizes();
        feeding();
        cutting();
        Check.end();
    }

    private static void newObject() {
        TwinHalves x = new TwinHalves(100, 3);
        int[] memory = {0, 0, 100, 0, 0, 0, 0, 0, 0, 0, 0, 0, 0, 100, 3};
        for (int what = 0; what < memory.length; what++) {
            Check.memory(x, what, memory[what]);
        }
        Check.due("end(1)", x.end(1), -1);
        Check.due("end(0)", x.end(0), 0);
        Check.due("fault()", x.fault(), 0);
        Check.due("begin()", Check.begin(x), "throws.IllegalStateException");
        Check.due("about(0)", x.about(0), 0);
        Check.due("said(0)", Check.said(x, 0), "throws.NoSuchElementException");
        Check.due("letter(0)", x.letter(0), -1);
        for (int r = 0; r < 8; r++) {
            Check.due("hand(" + r + ", 0)", x.hand(r, 0), 0);
            Check.due("hand(" + r + ", 1)", x.hand(r, 1), 0);
            Check.due("hand(" + r + ", 2)", x.hand(r, 2), -1);
        }
        Check.due("stack(0, 0)", x.stack(0, 0), -1);
        Check.due("reach(0)", x.reach(0), 0);
    }

    private static void nearestSizes() {
        int[][] rows = {{15, 0, 16, 1}, {16, 1, 16, 1}, {1200, 6, 1200, 6}, {1201, 7, 1200, 6},
            {-5, -5, 16, 1}, {Integer.MIN_VALUE, Integer.MIN_VALUE, 16, 1},
            {Integer.MAX_VALUE, Integer.MAX_VALUE, 1200, 6}};
        for (int[] row : rows) {
            TwinHalves x = new TwinHalves(row[0], row[1]);
            Check.memory(x, 13, row[2]);
            Check.memory(x, 14, row[3]);
            Check.memory(x, 2, row[2]);
        }
    }

    private static void feeding() {
        TwinHalves x = new TwinHalves(16, 1);
        // "set " "a -7" "; no" "ne b" ";   ": each number's highest byte comes first
        Check.due("feed", x.feed(0x73657420, 0x61202d37, 0x3b206e6f, 0x6e652062, 0x3b202020), 20);
        Check.due("program()", x.program(), 2);
        Check.due("begin()", Check.begin(x), "0");
        Check.due("run(5)", Check.run(x, 5), "2");
        Check.due("hand(0, 1)", x.hand(0, 1), -7);
        Check.due("hand(1, 0)", x.hand(1, 0), 1);
        for (int i = 1; i <= 100; i++) {
            Check.due("feed " + i, x.feed(0x20202020, 0x20202020, 0x20202020, 0x20202020, 0x20202020), 20 * i);
        }
        Check.due("feed beyond 2000", x.feed(0, 0, 0, 0, 0), -1);
        Check.due("end(1981)", x.end(1981), 1981);
        Check.due("feed to 2001", x.feed(0, 0, 0, 0, 0), -1);
        Check.due("end(1980)", x.end(1980), 1980);
        Check.due("feed to 2000", x.feed(0x20202020, 0x20202020, 0x20202020, 0x20202020, 0x20202000), 2000);
        Check.due("program()", x.program(), -2000);
        Check.due("fault()", x.fault(), 1);
        Check.due("end(1) of the empty TAPE", x.end(1), -1);
    }

    private static void cutting() {
        TwinHalves x = new TwinHalves(16, 1);
        Check.type(x, "stop; stop; x");
        Check.due("end(14)", x.end(14), -1);
        Check.due("end(-1)", x.end(-1), -1);
        Check.due("end(MIN)", x.end(Integer.MIN_VALUE), -1);
        Check.due("end(13)", x.end(13), 13);
        Check.due("end(11)", x.end(11), 11);
        Check.due("end(12)", x.end(12), -1);
        Check.due("program()", x.program(), 2);
        Check.type(x, "stop; ?");
        Check.due("end(0)", x.end(0), 0);
        Check.due("program()", x.program(), 0);
    }
}
