/** The boundary cases of promises 1 to 5: a new object, feed, end, program, fault. */
public final class TapeEdgeTest {
    private static final int LEAST = Integer.MIN_VALUE;
    private static final int MOST = Integer.MAX_VALUE;
    private static final int SPACES = 0x20202020;

    public static void main(String[] args) {
        nearestSize();
        nearestK();
        nearestKIsUsed();
        newObjectIsEmpty();
        highestByteFirst();
        bytesAbove127();
        howManyThereAre();
        moreThan2000();
        noneComeBeyond2000();
        firstBytesAlone();
        notSoMany();
        belowZero();
        tapeIsEmptyThen();
        howManyActs();
        lessThePlace();
        programAndRunStay();
        noProgramStaysNone();
        noRunWithANewProgram();
        faultAheadOfAny();
        faultOfTheLatest();
        Check.end();
    }

    private static void nearestSize() {
        Check.about("Promise 1", "Halves of size words (16 .. 1200, of others the nearest)");
        int[][] rows = {{16, 16}, {17, 17}, {1199, 1199}, {1200, 1200}, {15, 16}, {1201, 1200}, {0, 16}, {-1, 16},
            {-1200, 16}, {LEAST, 16}, {MOST, 1200}};
        for (int[] row : rows) {
            TwinHalves x = new TwinHalves(row[0], 3);
            Check.memory(x, 13, row[1]);
            Check.memory(x, 2, row[1]);
            Check.memory(x, 14, 3);
            // all of its words can be used, in either half
            for (int half = 0; half < 2; half++) {
                Acts.done(x, "plain a " + Math.min(40, row[1] - 2));
                Acts.place(x, "a", row[1] - Math.min(42, row[1]));
                Acts.done(x, "set a 0");
                Acts.turned(x, true);
            }
        }
    }

    private static void nearestK() {
        Check.about("Promise 1", "K as told (1 .. 6, likewise)");
        int[][] rows = {{1, 1}, {2, 2}, {5, 5}, {6, 6}, {0, 1}, {7, 6}, {-1, 1}, {-6, 1}, {LEAST, 1}, {MOST, 6}};
        for (int[] row : rows) {
            TwinHalves x = new TwinHalves(500, row[0]);
            Check.memory(x, 14, row[1]);
            Check.memory(x, 13, 500);
        }
    }

    private static void nearestKIsUsed() {
        Check.about("Promise 1", "K as told: of others the nearest is what a making goes by");
        int[][] rows = {{LEAST, 2}, {0, 2}, {7, 12}, {MOST, 12}};
        for (int[] row : rows) {
            TwinHalves x = new TwinHalves(100, row[0]);
            Acts.done(x, "plain a 40");
            Acts.turned(x, true);
            Acts.done(x, "plain b 0");
            Check.memory(x, 1, row[1]);
        }
    }

    private static void newObjectIsEmpty() {
        Check.about("Promise 1", "an empty TAPE, no program, nothing SAID, no TEXT");
        TwinHalves x = new TwinHalves(16, 1);
        Check.due("end(0)", x.end(0), 0);
        Check.due("end(1)", x.end(1), -1);
        Check.due("fault()", x.fault(), 0);
        Check.due("begin()", Check.begin(x), "throws.IllegalStateException");
        Check.due("about(0)", x.about(0), 0);
        Check.due("about(6)", x.about(6), 0);
        Check.due("said(0)", Check.said(x, 0), "throws.NoSuchElementException");
        Check.due("letter(0)", x.letter(0), -1);
        Check.due("letter(599)", x.letter(599), -1);
        Check.due("program()", x.program(), 0);
    }

    /** Feeds 20 bytes. */
    private static int feed(TwinHalves x, byte[] bytes) {
        return x.feed(Check.numberAt(bytes, 0), Check.numberAt(bytes, 4), Check.numberAt(bytes, 8),
                Check.numberAt(bytes, 12), Check.numberAt(bytes, 16));
    }

    private static void highestByteFirst() {
        Check.about("Promise 2", "Twenty bytes come behind those on the TAPE, of each number the highest first");
        for (int place = 0; place < 20; place++) {
            for (int ahead = 0; ahead < 2; ahead++) {
                TwinHalves x = new TwinHalves(16, 1);
                for (int i = 0; i < ahead; i++) {
                    x.feed(SPACES, SPACES, SPACES, SPACES, SPACES);
                }
                byte[] bytes = " ".repeat(20).getBytes();
                bytes[place] = '?';
                Check.due("feed", feed(x, bytes), 20 * ahead + 20);
                Check.due("program() with a ? at " + place, x.program(), -1 - place - 20 * ahead);
            }
        }
    }

    private static void bytesAbove127() {
        Check.about("Promise 2", "Twenty bytes: also 128 .. 255, of numbers below 0");
        TwinHalves x = new TwinHalves(16, 1);
        Check.due("feed", x.feed(0x73746f70, 0x3b20ff20, -1, LEAST, MOST), 20);
        Check.due("program()", x.program(), -7);
        Check.due("feed", x.feed(SPACES, 0x202020a0, SPACES, SPACES, SPACES), 20);
        Check.due("program()", x.program(), -8);
        // 0x8a is no 0x0a, 0xe1 no a
        Check.due("feed", x.feed(0x73657420, 0xe1203520, SPACES, SPACES, SPACES), 20);
        Check.due("program()", x.program(), -5);
        Check.due("feed", x.feed(0x8a202020, SPACES, SPACES, SPACES, SPACES), 20);
        Check.due("program()", x.program(), -1);
    }

    /** An object with n bytes 32 on its TAPE. */
    private static TwinHalves spaces(int n) {
        TwinHalves x = new TwinHalves(16, 1);
        for (int there = 20; there < n + 20; there += 20) {
            Check.due("feed", x.feed(SPACES, SPACES, SPACES, SPACES, SPACES), there);
        }
        Check.due("end(" + n + ")", x.end(n), n);
        return x;
    }

    private static void howManyThereAre() {
        Check.about("Promise 2", "how many there are");
        TwinHalves x = spaces(7);
        Check.due("feed", x.feed(0, 0, 0, 0, 0), 27);
        Check.due("end(0)", x.end(0), 0);
        Check.due("feed", x.feed(0, 0, 0, 0, 0), 20);
        TwinHalves most = spaces(1980);
        Check.due("feed", most.feed(SPACES, SPACES, SPACES, SPACES, SPACES), 2000);
        Check.due("program()", most.program(), 0);
    }

    private static void moreThan2000() {
        Check.about("Promise 2", "NONE, and none come, if there would be more than 2000");
        for (int n : new int[] {1981, 1990, 1999, 2000}) {
            TwinHalves x = spaces(n);
            Check.due("feed behind " + n, x.feed(SPACES, SPACES, SPACES, SPACES, SPACES), -1);
            Check.due("end(" + (n + 1) + ")", x.end(n + 1), -1);
            Check.due("end(" + n + ")", x.end(n), n);
        }
    }

    private static void noneComeBeyond2000() {
        Check.about("Promise 2", "and none come");
        TwinHalves x = spaces(1981);
        Check.due("feed", x.feed(-1, -1, -1, -1, -1), -1);
        Check.due("end(1980)", x.end(1980), 1980);
        Check.due("feed", x.feed(SPACES, SPACES, SPACES, SPACES, SPACES), 2000);
        Check.due("program()", x.program(), 0);
        TwinHalves y = spaces(2000);
        Check.due("feed", y.feed(-1, -1, -1, -1, -1), -1);
        Check.due("program()", y.program(), 0);
    }

    private static void firstBytesAlone() {
        Check.about("Promise 3", "The TAPE has its first n bytes alone: n");
        TwinHalves x = new TwinHalves(16, 1);
        Check.type(x, "stop;stop;stop;?????");
        Check.due("end(20)", x.end(20), 20);
        Check.due("end(15)", x.end(15), 15);
        Check.due("end(15)", x.end(15), 15);
        Check.due("end(16)", x.end(16), -1);
        Check.due("end(10)", x.end(10), 10);
        Check.due("program()", x.program(), 2);
        // what comes then comes right behind them
        Check.type(x, "stop;stop;stop;?????");
        Check.due("end(1)", x.end(1), 1);
        Check.due("feed", x.feed(0x65742062, 0x20353b20, SPACES, SPACES, SPACES), 21);
        Check.due("program()", x.program(), 1);
        Check.due("begin()", Check.begin(x), "0");
        Check.due("run(1)", Check.run(x, 1), "1");
        Acts.has(x, "b", 0, 5);
        // none at all
        Check.type(x, "?");
        Check.due("end(0)", x.end(0), 0);
        Check.due("end(1)", x.end(1), -1);
        Check.due("program()", x.program(), 0);
    }

    private static void notSoMany() {
        Check.about("Promise 3", "NONE if it has not so many");
        TwinHalves x = new TwinHalves(16, 1);
        Check.type(x, "stop;stop;");
        for (int n : new int[] {11, 20, 2000, 2001, MOST}) {
            Check.due("end(" + n + ")", x.end(n), -1);
        }
        Check.due("program()", x.program(), 2);
        TwinHalves most = spaces(2000);
        Check.due("end(2001)", most.end(2001), -1);
        Check.due("end(2000)", most.end(2000), 2000);
    }

    private static void belowZero() {
        Check.about("Promise 3", "or n is below 0");
        TwinHalves x = new TwinHalves(16, 1);
        Check.due("end(-1) of the empty TAPE", x.end(-1), -1);
        Check.type(x, "stop;stop;");
        for (int n : new int[] {-1, -10, LEAST}) {
            Check.due("end(" + n + ")", x.end(n), -1);
        }
        Check.due("program()", x.program(), 2);
    }

    private static void tapeIsEmptyThen() {
        Check.about("Promise 4", "The TAPE (empty then) becomes the program");
        TwinHalves x = new TwinHalves(16, 1);
        for (String text : new String[] {"stop;", "stop;?", "5", "x:stop;x:stop;", "jump x;", ""}) {
            Check.type(x, text);
            x.program();
            Check.due("end(1) behind program() of " + text, x.end(1), -1);
            Check.due("end(0)", x.end(0), 0);
        }
        // of a full TAPE, too
        TwinHalves most = spaces(2000);
        Check.due("program()", most.program(), 0);
        Check.due("end(1)", most.end(1), -1);
        Check.due("feed", most.feed(SPACES, SPACES, SPACES, SPACES, SPACES), 20);
    }

    private static void howManyActs() {
        Check.about("Promise 4", "how many ACTS it has");
        for (int acts : new int[] {0, 1, 2, 149, 150}) {
            Check.acts("stop;".repeat(acts), acts);
        }
    }

    private static void lessThePlace() {
        Check.about("Promise 4", "-1 less the place of a FAULT");
        Check.fault("?", 1, 0);
        Check.fault(" ?", 1, 1);
        Check.fault(" ".repeat(1999) + "?", 1, 1999);
        Check.fault(" ".repeat(1996) + "stop", 2, 2000);
        Check.fault("5", 2, 0);
    }

    private static void programAndRunStay() {
        Check.about("Promise 4", "of a FAULT: the program, and the run, stay as they were");
        String[] faulty = {"stop;?", "set b 7;5", "x:stop;x:stop;", "set b 7;jump x;", "stop;".repeat(151)};
        for (int kind = 1; kind <= 5; kind++) {
            TwinHalves x = new TwinHalves(16, 1);
            Check.start(x, "set a 5;say a;x:none a;say a;jump x;");
            Check.due("run(9)", Check.run(x, 9), "3");
            String before = Acts.state(x);
            Check.type(x, faulty[kind - 1]);
            Check.due("program() of it is none", x.program() < 0, true);
            Check.due("fault()", x.fault(), kind);
            Check.due("the state", Acts.state(x), before);
            Check.due("said(0)", Check.said(x, 0), "5");
            Check.due("about(3)", x.about(3), 23);
            Acts.done(x, "set a 6");
            Check.due("run(2)", Check.run(x, 2), "2");
            Check.due("said(1)", Check.said(x, 1), "6");
            Check.due("about(2)", x.about(2), 2);
            Check.due("begin()", Check.begin(x), "0");
            Check.due("run(2)", Check.run(x, 2), "2");
            Check.due("said(0)", Check.said(x, 0), "5");
        }
    }

    private static void noProgramStaysNone() {
        Check.about("Promise 4", "of a FAULT: the program stays as it was, also if there was none");
        TwinHalves x = new TwinHalves(16, 1);
        Check.type(x, "stop;5");
        Check.due("program()", x.program(), -6);
        Check.due("begin()", Check.begin(x), "throws.IllegalStateException");
        Check.due("run(1)", Check.run(x, 1), "throws.IllegalStateException");
        Check.due("about(0)", x.about(0), 0);
    }

    private static void noRunWithANewProgram() {
        Check.about("Promise 4", "With a new program there is no run");
        String[] olds = {"set a 5;say a;call x;x:stop;stop;", "say a;call x;stop;x:none b;say b;", "say a;"};
        for (String fresh : new String[] {"stop;stop;", ""}) {
            for (String old : olds) {
                TwinHalves x = new TwinHalves(16, 1);
                Check.start(x, old);
                Check.run(x, 4);
                Check.type(x, fresh);
                Check.due("program()", x.program(), fresh.length() / 5);
                for (int what = 0; what < 7; what++) {
                    Check.due("about(" + what + ")", x.about(what), what == 2 || what == 3 ? -1 : 0);
                }
                Check.due("said(0)", Check.said(x, 0), "throws.NoSuchElementException");
                Check.due("run(0)", Check.run(x, 0), "throws.IllegalStateException");
                Check.due("begin()", Check.begin(x), "0");
                Check.due("run(9)", Check.run(x, 9), fresh.isEmpty() ? "0" : "1");
            }
        }
    }

    private static void faultAheadOfAny() {
        Check.about("Promise 5", "0 without one, or ahead of any");
        TwinHalves x = new TwinHalves(16, 1);
        Check.due("fault()", x.fault(), 0);
        Check.type(x, "?");
        Check.due("fault()", x.fault(), 0);
        Check.due("end(0)", x.end(0), 0);
        Check.due("program()", x.program(), 0);
        Check.due("fault()", x.fault(), 0);
    }

    private static void faultOfTheLatest() {
        Check.about("Promise 5", "The kind of the FAULT of the latest program()");
        String[] texts = {"?", "stop;", "5", "", "x:stop;x:stop;", "jump x;", "stop;".repeat(151), "stop;"};
        int[] kinds = {1, 0, 2, 0, 3, 4, 5, 0};
        TwinHalves x = new TwinHalves(16, 1);
        for (int i = 0; i < texts.length; i++) {
            Check.type(x, texts[i]);
            Check.due("fault() ahead of program()", x.fault(), i == 0 ? 0 : kinds[i - 1]);
            x.program();
            Check.due("fault()", x.fault(), kinds[i]);
            Check.begin(x);
            Check.run(x, 1);
            Check.due("fault() behind a run", x.fault(), kinds[i]);
        }
    }
}
