/** Promises 4 and 5: program, fault, and the FAULTS of texts. */
public final class ProgramTest {
    private static final String ALL = "set a 1;copy a b;none a;row a 1;plain a 1;rows a b;plains a b;get a b 1;"
            + "gets a b c;put a 1 b;puts a b c;size a b;kind a b;add a b c;sub a b c;mul a b c;less a b c;"
            + "same a b c;push a;pop a;say a;jump x;zero h x;call x;back;x:stop;";

    public static void main(String[] args) {
        goodTexts();
        cuttingFaults();
        misplaced();
        labels();
        tooMany();
        whatStays();
        nothingOfEarlierTexts();
        Check.end();
    }

    private static void goodTexts() {
        Check.acts("", 0);
        Check.acts(" \n ", 0);
        Check.acts(ALL, 26);
        Check.acts("set a-1;set\nb 2147483647 ;set c -2147483648;", 3);
        Check.acts("put a 0b;put b 1c;", 2);
        Check.acts("set a 0000000001; set a -0; set a -0000000009;", 3);
        Check.acts("abcdefgh:jump abcdefgh;", 1);
        Check.acts("i: jump i; a1: jump a1; set1: jump set1; z9: jump z9;", 4);
        Check.acts("jump x; jump y; y: stop; x: stop;", 4);
    }

    private static void cuttingFaults() {
        Check.fault("?", 1, 0);
        Check.fault("stop; A: stop;", 1, 6);
        Check.fault("stop;\tstop;", 1, 5);
        Check.fault("stop;\u00ff", 1, 5);
        Check.fault("stop;\u0000", 1, 5);
        Check.fault("set a - 1;", 1, 6);
        Check.fault("set a --1;", 1, 6);
        Check.fault("set a -", 1, 6);
        Check.fault("set a 2147483648;", 1, 6);
        Check.fault("set a -2147483649;", 1, 6);
        Check.fault("set a 9999999999;", 1, 6);
        Check.fault("set a 00000000001;", 1, 6);
        Check.fault("set a -00000000001;", 1, 6);
        Check.fault("set a 18446744073709551617;", 1, 6);
        Check.fault("abcdefghi: stop;", 1, 0);
        Check.fault("abcdefgh1: stop;", 1, 0);
        // all is cut ahead of the reading
        Check.fault("; ; abcdefghi -", 1, 4);
        Check.fault("jump x; x: x: ?", 1, 14);
    }

    private static void misplaced() {
        Check.fault("a: stop;", 2, 0);
        Check.fault("5;", 2, 0);
        Check.fault("stop;;", 2, 5);
        Check.fault(": stop;", 2, 0);
        Check.fault("x stop;", 2, 2);
        Check.fault("x: y: stop;", 2, 3);
        Check.fault("x: a;", 2, 3);
        Check.fault("x:", 2, 2);
        Check.fault("x: ", 2, 3);
        Check.fault("x", 2, 1);
        Check.fault("stop: stop;", 2, 4);
        Check.fault("stop", 2, 4);
        Check.fault("stop \n", 2, 6);
        Check.fault("stop stop;", 2, 5);
        Check.fault("set a b;", 2, 6);
        Check.fault("set 1 1;", 2, 4);
        Check.fault("set i 1;", 2, 4);
        Check.fault("set a 1 2;", 2, 8);
        Check.fault("set a ;", 2, 6);
        Check.fault("get a b c;", 2, 8);
        Check.fault("gets a b 1;", 2, 9);
        Check.fault("put a b c;", 2, 6);
        Check.fault("jump a;", 2, 5);
        Check.fault("jump set;", 2, 5);
        Check.fault("jump 1;", 2, 5);
        Check.fault("zero x x;", 2, 5);
        Check.fault("put a0b;", 2, 4);
    }

    private static void labels() {
        Check.fault("x: stop; x: stop;", 3, 9);
        Check.fault("x: stop; x stop;", 2, 11);
        Check.fault("x: stop; x: 5;", 3, 9);
        Check.fault("x: stop; 5 x: stop;", 2, 9);
        Check.fault("x: stop; y: jump x; x :", 3, 20);
        Check.fault("jump y; stop;", 4, 5);
        Check.fault("x: jump x; zero a z; call y;", 4, 18);
        Check.fault("jump z; 5", 2, 8);
        Check.fault("jump z; x: stop; x: stop;", 3, 17);
    }

    private static void tooMany() {
        String most = "stop;".repeat(150);
        Check.acts(most, 150);
        Check.fault(most + " stop;", 5, 751);
        Check.fault(most + "x: stop;", 5, 750);
        Check.fault(most + "x stop;", 5, 750);
        Check.fault(most + "x", 5, 750);
        Check.fault(most + "5", 2, 750);
        Check.fault(most + ";", 2, 750);
        Check.fault(most + "a: stop;", 2, 750);
        Check.fault("x:" + most + "x: stop;", 3, 752);
        Check.fault("x:" + most + "x stop;", 5, 752);
        Check.fault("jump z;" + "stop;".repeat(149) + "stop", 5, 752);
        Check.fault("jump z;" + "stop;".repeat(149), 4, 5);
        Check.acts("l: stop;".repeat(1) + "stop;".repeat(148) + "k: jump l;", 150);
    }

    private static void whatStays() {
        TwinHalves x = new TwinHalves(16, 1);
        Check.start(x, "set a 5; say a; stop;");
        Check.due("run(2)", Check.run(x, 2), "2");
        Check.type(x, "set b 1; jump y;");
        Check.due("program()", x.program(), -15);
        Check.due("fault()", x.fault(), 4);
        Check.due("end(1): the TAPE is empty", x.end(1), -1);
        Check.due("about(2)", x.about(2), 2);
        Check.due("about(3)", x.about(3), 16);
        Check.due("said(0)", Check.said(x, 0), "5");
        Check.due("run(9)", Check.run(x, 9), "1");
        Check.due("begin()", Check.begin(x), "0");
        Check.due("run(9)", Check.run(x, 9), "3");
        Check.type(x, "stop;");
        Check.due("program()", x.program(), 1);
        Check.due("fault()", x.fault(), 0);
        Check.due("about(0): no run", x.about(0), 0);
        Check.due("about(4)", x.about(4), 0);
        Check.due("about(6)", x.about(6), 0);
        Check.due("said(0)", Check.said(x, 0), "throws.NoSuchElementException");
        Check.due("run(1)", Check.run(x, 1), "throws.IllegalStateException");
        Check.due("program() of nothing", x.program(), 0);
        Check.due("begin()", Check.begin(x), "0");
        Check.due("about(0)", x.about(0), 2);
    }

    private static void faultOfCut(TwinHalves x, String text, int length, int kind, int place) {
        Check.type(x, text);
        Check.due("end(" + length + ") of " + text, x.end(length), length);
        Check.due("program() of that", x.program(), -1 - place);
        Check.due("fault() of that", x.fault(), kind);
    }

    private static void nothingOfEarlierTexts() {
        TwinHalves x = new TwinHalves(16, 1);
        faultOfCut(x, "x: stop; x: stop;", 10, 2, 10);
        faultOfCut(x, "x: stop; x: stop;", 11, 3, 9);
        faultOfCut(x, "x: stop;", 1, 2, 1);
        faultOfCut(x, "x: stop;", 7, 2, 7);
        faultOfCut(x, "abcdefghi", 8, 2, 8);
        faultOfCut(x, "set a 21474836470;", 16, 2, 16);
        faultOfCut(x, "set a -5;", 7, 1, 6);
        Check.start(x, "l: jump l;");
        Check.type(x, "jump l;");
        Check.due("program() without the earlier LABEL", x.program(), -6);
        Check.due("fault()", x.fault(), 4);
    }
}
