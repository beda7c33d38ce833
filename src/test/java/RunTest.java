/** Promises 6 to 9: begin, run, about, said, and the ACTS that only a run does. */
public final class RunTest {
    public static void main(String[] args) {
        wrongCalls();
        plainRun();
        emptyProgram();
        refusedAct();
        jumpsAndZero();
        callsAndBack();
        openCallsAtTheEnd();
        manyCalls();
        manySaid();
        beginAgain();
        everyAct();
        Check.end();
    }

    private static void about(TwinHalves x, int... want) {
        for (int what = 0; what < want.length; what++) {
            Check.due("about(" + what + ")", x.about(what), want[what]);
        }
        Check.due("about(-1)", x.about(-1), -1);
        Check.due("about(7)", x.about(7), -1);
    }

    private static void wrongCalls() {
        TwinHalves x = new TwinHalves(16, 1);
        about(x, 0, 0, -1, -1, 0, 0, 0);
        Check.due("run(0)", Check.run(x, 0), "throws.IllegalStateException");
        Check.due("run(-1)", Check.run(x, -1), "throws.IllegalArgumentException");
        Check.due("run(2001)", Check.run(x, 2001), "throws.IllegalArgumentException");
        Check.due("begin()", Check.begin(x), "throws.IllegalStateException");
        Check.type(x, "stop;");
        Check.due("program()", x.program(), 1);
        Check.due("run(1)", Check.run(x, 1), "throws.IllegalStateException");
        about(x, 0, 0, -1, -1, 0, 0, 0);
    }

    private static void plainRun() {
        TwinHalves x = new TwinHalves(16, 1);
        Check.start(x, " set a 5;\n w1 : say a; stop; say a;");
        about(x, 1, 0, 0, 1, 0, 0, 0);
        Check.due("run(0)", Check.run(x, 0), "0");
        Check.due("run(1)", Check.run(x, 1), "1");
        about(x, 1, 0, 1, 16, 1, 0, 0);
        Check.due("run(1)", Check.run(x, 1), "1");
        about(x, 1, 0, 2, 23, 2, 0, 1);
        Check.due("run(2000)", Check.run(x, 2000), "1");
        about(x, 2, 0, -1, -1, 3, 0, 1);
        Check.due("run(2000)", Check.run(x, 2000), "0");
        Check.due("run(2001)", Check.run(x, 2001), "throws.IllegalArgumentException");
        Check.due("said(0)", Check.said(x, 0), "5");
        Check.due("said(1)", Check.said(x, 1), "throws.NoSuchElementException");
        Check.due("said(-1)", Check.said(x, -1), "throws.NoSuchElementException");
    }

    private static void emptyProgram() {
        TwinHalves x = new TwinHalves(16, 1);
        Check.start(x, "");
        about(x, 2, 0, -1, -1, 0, 0, 0);
        Check.due("run(1)", Check.run(x, 1), "0");
    }

    private static void refusedAct() {
        TwinHalves x = new TwinHalves(16, 1);
        Check.start(x, "none a; add b a a; say b;");
        Check.due("run(9)", Check.run(x, 9), "1");
        about(x, 3, 1, 1, 8, 1, 0, 0);
        Check.due("run(9)", Check.run(x, 9), "0");
        Check.due("run(0)", Check.run(x, 0), "0");
        about(x, 3, 1, 1, 8, 1, 0, 0);
        Check.act(x, 0, 0, 0, 21, 0);
        about(x, 3, 1, 1, 8, 1, 0, 0);
        Check.due("run(1)", Check.run(x, 1), "1");
        about(x, 1, 0, 2, 19, 2, 0, 0);
        Check.act(x, 0, 2, 1, 0, 0);
        Check.due("run(1)", Check.run(x, 1), "0");
        about(x, 3, 1, 2, 19, 2, 0, 0);
        Check.act(x, 0, 0, 1, 42, 0);
        Check.due("run(1)", Check.run(x, 1), "1");
        about(x, 2, 0, -1, -1, 3, 0, 1);
        Check.due("said(0)", Check.said(x, 0), "42");
    }

    private static void jumpsAndZero() {
        TwinHalves x = new TwinHalves(16, 1);
        Check.start(x, "set a 3; set b 1; l: zero a z; say a; sub a a b; jump l;"
                + "z: none a; zero a z; row a 0; zero a z;");
        Check.due("run(2000)", Check.run(x, 2000), "19");
        about(x, 2, 0, -1, -1, 19, 0, 3);
        Check.due("said(2)", Check.said(x, 2), "1");
        Check.start(x, "l: jump l;");
        Check.due("run(2000)", Check.run(x, 2000), "2000");
        Check.due("run(2000)", Check.run(x, 2000), "2000");
        about(x, 1, 0, 0, 3, 4000, 0, 0);
    }

    private static void callsAndBack() {
        TwinHalves x = new TwinHalves(16, 1);
        Check.start(x, "set a 1; call p; set a 9; say a; back; p: say a; call q; say a; back; q: set a 7; back;");
        Check.due("run(4)", Check.run(x, 4), "4");
        Check.due("about(5)", x.about(5), 2);
        Check.due("about(2)", x.about(2), 9);
        Check.due("run(2)", Check.run(x, 2), "2");
        Check.due("about(5)", x.about(5), 1);
        Check.due("about(2)", x.about(2), 7);
        Check.due("run(99)", Check.run(x, 99), "5");
        about(x, 2, 0, -1, -1, 11, 0, 3);
        Check.due("said(0)", Check.said(x, 0), "1");
        Check.due("said(1)", Check.said(x, 1), "7");
        Check.due("said(2)", Check.said(x, 2), "9");
    }

    private static void openCallsAtTheEnd() {
        TwinHalves x = new TwinHalves(16, 1);
        Check.start(x, "call p; p: set a 1;");
        Check.due("run(9)", Check.run(x, 9), "2");
        about(x, 2, 0, -1, -1, 2, 1, 0);
        // a CALL that is the last ACT goes back to the END
        Check.start(x, "jump m; p: back; m: call p;");
        Check.due("run(9)", Check.run(x, 9), "3");
        about(x, 2, 0, -1, -1, 3, 0, 0);
    }

    private static void manyCalls() {
        TwinHalves x = new TwinHalves(16, 1);
        Check.start(x, "l: call l;");
        Check.due("run(99)", Check.run(x, 99), "30");
        about(x, 3, 7, 0, 3, 30, 30, 0);
    }

    private static void manySaid() {
        TwinHalves x = new TwinHalves(16, 1);
        Check.start(x, "set b 1; l: say a; add a a b; jump l;");
        Check.due("run(901)", Check.run(x, 901), "901");
        Check.due("about(6)", x.about(6), 300);
        Check.due("run(9)", Check.run(x, 9), "9");
        Check.due("about(6)", x.about(6), 303);
        Check.due("said(299)", Check.said(x, 299), "299");
        Check.due("said(300)", Check.said(x, 300), "throws.NoSuchElementException");
        Check.due("said(MAX)", Check.said(x, Integer.MAX_VALUE), "throws.NoSuchElementException");
    }

    private static void beginAgain() {
        TwinHalves x = new TwinHalves(30, 1);
        Check.start(x, "row a 1; push a; call l; l: say b; say a;");
        Check.due("run(9)", Check.run(x, 9), "4");
        about(x, 3, 1, 4, 35, 4, 1, 1);
        Check.due("begin()", Check.begin(x), "0");
        about(x, 1, 0, 0, 0, 0, 0, 0);
        Check.due("said(0)", Check.said(x, 0), "throws.NoSuchElementException");
        Check.due("hand(0, 0)", x.hand(0, 0), 2);
        Check.due("stack(0, 2)", x.stack(0, 2), 27);
        Check.memory(x, 7, 1);
        Check.due("run(2)", Check.run(x, 2), "2");
        Check.due("stack(1, 2)", x.stack(1, 2), 24);
    }

    private static void everyAct() {
        TwinHalves x = new TwinHalves(60, 1);
        Check.start(x, "set a 2; copy b a; none c; row d 3; plain e 2; rows f a; plains g b; put d 1 e; puts d a g;"
                + "put e 1 a; get h d 1; say a; set b 1; gets h h b; say h; size h d; say h; kind h g; say h;"
                + "add h a b; say h; sub h b a; say h; mul h a a; say h; less h b a; say h; same h e g; say h;"
                + "push a; pop h; say h; zero c x; call x; stop; x: say a; back;");
        Check.due("run(2000)", Check.run(x, 2000), "37");
        about(x, 2, 0, -1, -1, 37, 0, 11);
        int[] said = {2, 2, 3, 3, 3, -1, 4, 1, 0, 2, 2};
        for (int i = 0; i < said.length; i++) {
            Check.due("said(" + i + ")", Check.said(x, i), Integer.toString(said[i]));
        }
        Check.shown(x, 3, "#1 [. #2 #3] {0 2} {0 0}");
    }
}
