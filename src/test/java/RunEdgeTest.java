/** The boundary cases of promises 6 to 10: begin, run, about, said, act. */
public final class RunEdgeTest {
    private static final int LEAST = Integer.MIN_VALUE;
    private static final int MOST = Integer.MAX_VALUE;
    private static final String NO_ARGUMENT = "throws.IllegalArgumentException";
    private static final String NO_STATE = "throws.IllegalStateException";
    private static final String NO_ELEMENT = "throws.NoSuchElementException";
    private static final String[] TAKES = {"RN", "RS", "R", "RN", "RN", "RS", "RS", "RSN", "RST", "RNS", "RST", "RS",
        "RS", "RST", "RST", "RST", "RST", "RST", "R", "R"};

    public static void main(String[] args) {
        beginWithoutProgram();
        beginWithoutActs();
        beginAtTheFirstAct();
        beginLeavesTheMemory();
        runWithWrongNumber();
        runWithoutRun();
        wrongNumberComesFirst();
        runOfNone();
        runOfMost();
        fiveHundredAndTwelveCalls();
        runToItsEnd();
        runTillRefused();
        refusedIsNextStill();
        aboutAnother();
        aboutNoRun();
        aboutRefused();
        aboutRefusedOtherwise();
        endAsSoonAsNoActIsNext();
        placeOfTheWord();
        saidEdges();
        saidWithoutRun();
        first300AreKept();
        actEdges();
        Check.end();
    }

    private static void actEdges() {
        noSuchAct();
        noSuchHand();
        notTakenNotLookedAt();
        noneAheadOfRefusals();
        actOutsideOfTheRun();
    }

    private static TwinHalves started(String text) {
        TwinHalves x = new TwinHalves(40, 1);
        Check.start(x, text);
        return x;
    }

    private static void ran(TwinHalves x, int n, int want) {
        Check.due("run(" + n + ")", Check.run(x, n), Integer.toString(want));
    }

    private static void about(TwinHalves x, int... want) {
        for (int what = 0; what < want.length; what++) {
            Check.due("about(" + what + ")", x.about(what), want[what]);
        }
    }

    private static void beginWithoutProgram() {
        Check.about("Promise 6", "IllegalStateException: there is no program");
        TwinHalves x = new TwinHalves(16, 1);
        String before = Acts.state(x);
        Check.due("begin()", Check.begin(x), NO_STATE);
        Check.due("the state", Acts.state(x), before);
        Check.type(x, "stop;");
        Check.due("begin() with a TAPE that is no program yet", Check.begin(x), NO_STATE);
        Check.due("program()", x.program(), 1);
        Check.due("begin()", Check.begin(x), "0");
    }

    private static void beginWithoutActs() {
        Check.about("Promise 6", "there is no program (one without ACTS is one)");
        TwinHalves x = new TwinHalves(16, 1);
        Check.due("program()", x.program(), 0);
        Check.due("begin()", Check.begin(x), "0");
        about(x, 2, 0, -1, -1, 0, 0, 0);
        ran(x, 0, 0);
        ran(x, 2000, 0);
        Check.due("begin()", Check.begin(x), "0");
        about(x, 2, 0, -1, -1, 0, 0, 0);
    }

    private static void beginAtTheFirstAct() {
        Check.about("Promise 6", "A run begins, at the first ACT, with no CALLS and nothing SAID");
        String[] texts = {"say a;call x;x:stop;", "say a;call x;x:none a;say a;", "say a;call x;x:jump x;"};
        for (String text : texts) {
            TwinHalves x = started(text);
            Check.run(x, 9);
            Check.due("about(5)", x.about(5), 1);
            Check.due("begin()", Check.begin(x), "0");
            about(x, 1, 0, 0, 0, 0, 0, 0);
            Check.due("said(0)", Check.said(x, 0), NO_ELEMENT);
        }
        // 30 CALLS can be opened again
        TwinHalves x = started("x:call x;");
        ran(x, 99, 30);
        Check.due("begin()", Check.begin(x), "0");
        ran(x, 99, 30);
    }

    private static void beginLeavesTheMemory() {
        Check.about("Promise 6", "HANDS, STACK and all THINGS are as they are");
        TwinHalves x = started("row a 2;plain b 1;put a 0 b;push a;set c 5;none d;");
        ran(x, 99, 6);
        Acts.turned(x, true);
        String before = Acts.memoryOf(x);
        Check.due("begin()", Check.begin(x), "0");
        about(x, 1, 0, 0, 0, 0, 0, 0);
        Check.due("the memory", Acts.memoryOf(x), before);
    }

    private static void runWithWrongNumber() {
        Check.about("Promise 7", "IllegalArgumentException: n is not 0 .. 2000");
        TwinHalves x = started("x:say a;jump x;");
        ran(x, 3, 3);
        for (int n : new int[] {-1, 2001, LEAST, MOST}) {
            Check.due("run(" + n + ")", Check.run(x, n), NO_ARGUMENT);
            about(x, 1, 0, 1, 8, 3, 0, 2);
        }
        ran(x, 1, 1);
    }

    private static void runWithoutRun() {
        Check.about("Promise 7", "IllegalStateException: there is no run");
        TwinHalves x = new TwinHalves(16, 1);
        for (int n : new int[] {0, 1, 2000}) {
            Check.due("run(" + n + ")", Check.run(x, n), NO_STATE);
        }
        Check.type(x, "set a 5;");
        Check.due("program()", x.program(), 1);
        for (int n : new int[] {0, 1, 2000}) {
            Check.due("run(" + n + ") ahead of begin()", Check.run(x, n), NO_STATE);
        }
        Acts.has(x, "a", 0, 0);
        // a run that is at its END is one
        Check.due("begin()", Check.begin(x), "0");
        ran(x, 1, 1);
        ran(x, 1, 0);
    }

    private static void wrongNumberComesFirst() {
        Check.about("Promise 7", "IllegalStateException (looked for behind that)");
        TwinHalves x = new TwinHalves(16, 1);
        for (int n : new int[] {-1, 2001, LEAST, MOST}) {
            Check.due("run(" + n + ")", Check.run(x, n), NO_ARGUMENT);
        }
    }

    private static void runOfNone() {
        Check.about("Promise 7", "till n more ACTS were done: none, if n is 0");
        TwinHalves x = started("set a 5;none a;say a;");
        ran(x, 0, 0);
        Acts.has(x, "a", 0, 0);
        about(x, 1, 0, 0, 0, 0, 0, 0);
        ran(x, 2, 2);
        // an ACT that would be REFUSED isn't tried
        ran(x, 0, 0);
        about(x, 1, 0, 2, 15, 2, 0, 0);
    }

    private static void runOfMost() {
        Check.about("Promise 7", "n is not 0 .. 2000: 2000 more ACTS");
        TwinHalves x = started("set b 1;x:add a a b;jump x;");
        ran(x, 2000, 2000);
        Acts.has(x, "a", 0, 1000);
        ran(x, 2000, 2000);
        Acts.has(x, "a", 0, 2000);
        Check.due("about(4)", x.about(4), 4000);
        ran(x, 1, 1);
        ran(x, 1999, 1999);
        Check.due("about(4)", x.about(4), 6000);
    }

    private static void fiveHundredAndTwelveCalls() {
        Check.about("What it is", "An object is used for at most 512 calls");
        TwinHalves x = new TwinHalves(1200, 6);
        // feed, end, program and begin are four of them
        Check.start(x, "x:row a 9;jump x;");
        for (int i = 0; i < 505; i++) {
            ran(x, 2000, 2000);
        }
        Check.memory(x, 7, 505000);
        Check.due("about(4)", x.about(4), 1010000);
        Check.due("hand(0, 1), the 512th call", x.hand(0, 1), 9);
    }

    private static void runToItsEnd() {
        Check.about("Promise 7", "or to its END: how many were done");
        for (int n : new int[] {2, 3, 4, 2000}) {
            TwinHalves x = started("set a 1;set b 2;set c 3;");
            ran(x, n, Math.min(n, 3));
            Check.due("about(0)", x.about(0), n < 3 ? 1 : 2);
            ran(x, n, n < 3 ? 1 : 0);
            Check.due("about(4)", x.about(4), 3);
            Check.due("about(0)", x.about(0), 2);
        }
    }

    private static void runTillRefused() {
        Check.about("Promise 7", "or till an ACT is REFUSED: how many were done");
        TwinHalves x = started("set a 1;pop b;set a 2;");
        ran(x, 1, 1);
        about(x, 1, 0, 1);
        ran(x, 1, 0);
        about(x, 3, 6, 1, 8, 1);
        TwinHalves y = started("set a 1;pop b;set a 2;");
        ran(y, 2, 1);
        about(y, 3, 6, 1, 8, 1);
        Acts.has(y, "a", 0, 1);
        // the very first ACT
        TwinHalves z = started("pop b;");
        ran(z, 2000, 0);
        about(z, 3, 6, 0, 0, 0);
    }

    private static void refusedIsNextStill() {
        Check.about("Promise 7", "that ACT is not done, and is the next one still");
        TwinHalves x = started("pop b;set a 2;");
        for (int i = 0; i < 3; i++) {
            ran(x, 2000, 0);
            about(x, 3, 6, 0, 0, 0);
        }
        Acts.done(x, "set c 9; push c");
        ran(x, 1, 1);
        Acts.has(x, "b", 0, 9);
        about(x, 1, 0, 1, 6, 1);
        ran(x, 1, 1);
        about(x, 2, 0, -1, -1, 2);
    }

    private static void aboutAnother() {
        Check.about("Promise 8", "NONE for another what");
        for (TwinHalves x : new TwinHalves[] {new TwinHalves(16, 1), started("say a;"), started("")}) {
            for (int what : new int[] {-1, 7, 8, LEAST, MOST}) {
                Check.due("about(" + what + ")", x.about(what), -1);
            }
        }
    }

    private static void aboutNoRun() {
        Check.about("Promise 8", "0 of all but 2, 3 (NONE) without a run");
        TwinHalves x = new TwinHalves(16, 1);
        about(x, 0, 0, -1, -1, 0, 0, 0);
        Check.type(x, "stop;");
        Check.due("program()", x.program(), 1);
        about(x, 0, 0, -1, -1, 0, 0, 0);
    }

    private static void aboutRefused() {
        Check.about("Promise 8", "3 its latest ACT was REFUSED (till run() does an ACT); 1: the kind (0 unless 3)");
        TwinHalves x = started("pop b;jump x;x:stop;");
        about(x, 1, 0, 0);
        ran(x, 1, 0);
        about(x, 3, 6, 0, 0, 0);
        ran(x, 0, 0);
        about(x, 3, 6, 0, 0, 0);
        Acts.done(x, "push a; push a");
        about(x, 3, 6, 0, 0, 0);
        Check.due("run(-1)", Check.run(x, -1), NO_ARGUMENT);
        about(x, 3, 6, 0, 0, 0);
        ran(x, 1, 1);
        about(x, 1, 0, 1, 6, 1);
        ran(x, 9, 2);
        about(x, 2, 0, -1, -1, 3);
        Check.due("begin()", Check.begin(x), "0");
        Acts.done(x, "pop a");
        ran(x, 9, 0);
        about(x, 3, 6);
        Check.due("begin()", Check.begin(x), "0");
        about(x, 1, 0, 0, 0, 0);
    }

    private static void aboutRefusedOtherwise() {
        Check.about("Promise 8", "1: the kind for which its latest ACT was REFUSED");
        TwinHalves x = started("puts a b c;");
        Acts.done(x, "none b");
        ran(x, 1, 0);
        about(x, 3, 1);
        Acts.done(x, "set b 5");
        about(x, 3, 1);
        ran(x, 1, 0);
        about(x, 3, 2);
        Acts.done(x, "plain a 1; none c");
        ran(x, 1, 0);
        about(x, 3, 3);
        Acts.done(x, "set b 0");
        ran(x, 1, 0);
        about(x, 3, 5);
        Acts.done(x, "set c 4");
        ran(x, 1, 1);
        about(x, 2, 0, -1, -1, 1);
        Acts.slot(x, "a", 0, 0, 4, -1);
    }

    private static void endAsSoonAsNoActIsNext() {
        Check.about("Promise 8", "It has come to its END as soon as no ACT is next; 2, 3: NONE unless 1 or 3");
        for (String text : new String[] {"set a 1;", "stop;", "back;", "stop;set a 1;", "back;set a 1;", "say a;"}) {
            TwinHalves x = started(text);
            about(x, 1, 0, 0, 0, 0);
            ran(x, 1, 1);
            about(x, 2, 0, -1, -1, 1);
        }
    }

    private static void placeOfTheWord() {
        Check.about("Promise 8", "3: its place in the program's text, that of its WORD");
        TwinHalves x = started("  set a 1;\nx : \n jump y;y:stop;");
        int[] places = {2, 17, 26};
        for (int next = 0; next < 3; next++) {
            about(x, 1, 0, next, places[next], next);
            ran(x, 1, 1);
        }
        // as far off as a WORD can be
        TwinHalves y = new TwinHalves(16, 1);
        Check.start(y, " ".repeat(1995) + "stop;");
        about(y, 1, 0, 0, 1995);
    }

    private static void saidEdges() {
        Check.about("Promise 9", "NoSuchElementException: there is none such");
        TwinHalves x = started("say a;set a 7;say a;");
        Check.due("said(0)", Check.said(x, 0), NO_ELEMENT);
        ran(x, 1, 1);
        Check.due("said(0)", Check.said(x, 0), "0");
        Check.due("said(1)", Check.said(x, 1), NO_ELEMENT);
        ran(x, 9, 2);
        Check.due("said(1)", Check.said(x, 1), "7");
        for (int i : new int[] {2, -1, 299, 300, LEAST, MOST}) {
            Check.due("said(" + i + ")", Check.said(x, i), NO_ELEMENT);
        }
    }

    private static void saidWithoutRun() {
        Check.about("Promise 9", "NoSuchElementException: or no run");
        TwinHalves x = new TwinHalves(16, 1);
        Check.due("said(0)", Check.said(x, 0), NO_ELEMENT);
        Check.start(x, "say a;");
        ran(x, 1, 1);
        Check.type(x, "stop;");
        Check.due("program()", x.program(), 1);
        Check.due("said(0)", Check.said(x, 0), NO_ELEMENT);
    }

    private static void first300AreKept() {
        Check.about("Promise 9", "the first 300 are kept");
        TwinHalves x = started("set b 1;x:add a a b;say a;jump x;");
        ran(x, 1 + 3 * 299, 1 + 3 * 299);
        Check.due("about(6)", x.about(6), 299);
        Check.due("said(298)", Check.said(x, 298), "299");
        Check.due("said(299)", Check.said(x, 299), NO_ELEMENT);
        ran(x, 3, 3);
        Check.due("said(299)", Check.said(x, 299), "300");
        ran(x, 3, 3);
        // the 301st is SAID, and counted, but not kept
        Check.due("about(6)", x.about(6), 301);
        Check.due("said(0)", Check.said(x, 0), "1");
        Check.due("said(299)", Check.said(x, 299), "300");
        Check.due("said(300)", Check.said(x, 300), NO_ELEMENT);
    }

    private static void noSuchAct() {
        Check.about("Promise 10", "NONE if there is no such ACT (0 .. 19)");
        TwinHalves x = started("stop;");
        String before = Acts.state(x);
        for (int op : new int[] {-1, 20, 21, 22, 23, 24, 25, 26, LEAST, MOST}) {
            Check.act(x, -1, op, 0, 0, 0);
        }
        Check.due("the state", Acts.state(x), before);
        Check.act(x, 0, 0, 0, 5, 0);
        Check.act(x, 6, 19, 0, 0, 0);
    }

    private static void noSuchHand() {
        Check.about("Promise 10", "NONE if there is a HAND that is not 0 .. 7");
        for (int op = 0; op < 20; op++) {
            for (int i = 0; i < TAKES[op].length(); i++) {
                if (TAKES[op].charAt(i) == 'N') {
                    continue;
                }
                TwinHalves x = new TwinHalves(40, 1);
                Acts.done(x, "row a 2; push a; set h 1");
                String before = Acts.state(x);
                for (int r : new int[] {-1, 8, LEAST, MOST}) {
                    Check.act(x, -1, op, i == 0 ? r : 0, i == 1 ? r : 0, i == 2 ? r : 0);
                }
                Check.due("the state behind ACT " + op, Acts.state(x), before);
            }
        }
    }

    private static void notTakenNotLookedAt() {
        Check.about("Promise 10", "those that it does not take are not looked at");
        for (int op = 0; op < 20; op++) {
            for (int other : new int[] {-1, 8, LEAST, MOST}) {
                TwinHalves x = new TwinHalves(40, 1);
                Acts.done(x, "row a 3; set b 2; push b");
                int[] taken = {1, 1, 1};
                if (op == 7 || op == 8) {
                    taken[1] = 0;
                }
                if (op == 9 || op == 10) {
                    taken[0] = 0;
                }
                for (int i = TAKES[op].length(); i < 3; i++) {
                    taken[i] = other;
                }
                Check.act(x, op == 11 ? 2 : 0, op, taken[0], taken[1], taken[2]);
            }
        }
    }

    private static void noneAheadOfRefusals() {
        Check.about("Promise 10", "0, or the kind for which it is REFUSED; NONE if there is a HAND that is not 0 .. 7");
        TwinHalves x = new TwinHalves(16, 1);
        Acts.done(x, "none a");
        Check.act(x, -1, 13, 8, 0, 0);
        Check.act(x, -1, 3, 8, 41, 0);
        Check.act(x, -1, 7, 0, 8, -1);
        Check.act(x, -1, 9, 0, -1, -1);
        Check.act(x, -1, 19, 8, 0, 0);
        Check.act(x, 1, 13, 7, 0, 7);
        Check.act(x, 4, 3, 7, 41, 0);
        Check.act(x, 6, 19, 7, 0, 0);
        Check.act(x, 0, 0, 7, 8, 8);
        Acts.has(x, "h", 0, 8);
    }

    private static void actOutsideOfTheRun() {
        Check.about("Promise 10", "ACT number op is done outside of the run");
        TwinHalves x = started("say a;say a;");
        ran(x, 1, 1);
        Acts.done(x, "set a 8; push a");
        Acts.refused(x, 4, "row b 41");
        about(x, 1, 0, 1, 6, 1, 0, 1);
        ran(x, 1, 1);
        Check.due("said(1)", Check.said(x, 1), "8");
        // also at its END, and without any
        Acts.done(x, "set a 9");
        about(x, 2, 0, -1, -1, 2, 0, 2);
        TwinHalves none = new TwinHalves(16, 1);
        Acts.done(none, "set a 9");
        about(none, 0, 0, -1, -1, 0, 0, 0);
    }
}
