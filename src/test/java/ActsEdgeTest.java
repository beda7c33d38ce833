/** The boundary cases of "Terms", part 4: ACTS, by their numbers, and what they may be REFUSED for. */
public final class ActsEdgeTest {
    private static final int LEAST = Integer.MIN_VALUE;
    private static final int MOST = Integer.MAX_VALUE;

    public static void main(String[] args) {
        setAndCopy();
        lengths();
        lengthsOfHands();
        noNumberForALength();
        slotsRead();
        slotsWritten();
        noThing();
        noNumberForASlot();
        plainGetsNoNumber();
        leastOfSeveral();
        sizeOfNoThing();
        kinds();
        wrapAround();
        less();
        noNumberToReckon();
        same();
        pushAndPop();
        ownHand();
        runActs();
        Check.end();
    }

    private static void runActs() {
        say();
        zero();
        jumps();
        thirtyCalls();
        backBehindTheLatest();
        backWithoutACall();
        stopAndEnd();
        eachRefusalInARun();
    }

    /** HAND a has a ROW, b a PLAIN one, each of 3 SLOTS; c NOBODY, d the NUMBER 1. */
    private static TwinHalves four() {
        TwinHalves x = new TwinHalves(40, 1);
        Acts.done(x, "row a 3; plain b 3; none c; set d 1");
        return x;
    }

    private static void setAndCopy() {
        Check.about("Terms 4, ACTS 0 to 2", "R gets N; what S has; NOBODY");
        TwinHalves x = four();
        Acts.done(x, "set e -2147483648; set f 2147483647; copy g e; copy a b; copy b d; none d; copy c f; none f");
        Acts.has(x, "e", 0, LEAST);
        Acts.has(x, "g", 0, LEAST);
        Acts.has(x, "a", 3, 3);
        Acts.has(x, "b", 0, 1);
        Acts.has(x, "c", 0, MOST);
        Acts.has(x, "d", 1, 0);
        Acts.has(x, "f", 1, 0);
    }

    private static void lengths() {
        Check.about("Terms 4, kind 4", "a length that is not 0 .. 40 (row, plain)");
        for (String made : new String[] {"row", "plain"}) {
            for (int n : new int[] {-1, 41, LEAST, MOST, -2, 42}) {
                TwinHalves x = four();
                Acts.refusedWithoutChange(x, 4, made + " a " + n);
            }
            TwinHalves x = new TwinHalves(60, 1);
            Acts.done(x, made + " a 0; " + made + " b 40");
            Acts.has(x, "a", made.equals("row") ? 2 : 3, 0);
            Acts.has(x, "b", made.equals("row") ? 2 : 3, 40);
        }
        // a length is looked at ahead of all that a making does
        TwinHalves full = new TwinHalves(16, 1);
        Acts.done(full, "row a 14");
        Acts.refusedWithoutChange(full, 4, "row b 41");
        Acts.turned(full, true);
        Acts.refusedWithoutChange(full, 4, "row b -1");
    }

    private static void lengthsOfHands() {
        Check.about("Terms 4, kind 4", "a length that is not 0 .. 40 (rows, plains)");
        for (String made : new String[] {"rows", "plains"}) {
            for (int n : new int[] {-1, 41, LEAST, MOST}) {
                TwinHalves x = four();
                Acts.done(x, "set d " + n);
                Acts.refusedWithoutChange(x, 4, made + " a d");
            }
            TwinHalves x = new TwinHalves(60, 1);
            Acts.done(x, "set d 40; " + made + " a e; " + made + " b d");
            Acts.has(x, "a", made.equals("rows") ? 2 : 3, 0);
            Acts.has(x, "b", made.equals("rows") ? 2 : 3, 40);
        }
    }

    private static void noNumberForALength() {
        Check.about("Terms 4, kind 1", "a HAND that has no NUMBER (rows, plains)");
        for (String made : new String[] {"rows", "plains"}) {
            for (String hand : new String[] {"a", "b", "c"}) {
                Acts.refusedWithoutChange(four(), 1, made + " e " + hand);
            }
        }
    }

    private static void slotsRead() {
        Check.about("Terms 4, kind 3", "there is no such SLOT (get, gets)");
        for (String hand : new String[] {"a", "b"}) {
            for (int i : new int[] {-1, 3, LEAST, MOST, -2, 4}) {
                TwinHalves x = four();
                Acts.done(x, "set e " + i);
                Acts.refusedWithoutChange(x, 3, "get f " + hand + " " + i);
                Acts.refusedWithoutChange(x, 3, "gets f " + hand + " e");
            }
        }
        TwinHalves x = four();
        Acts.done(x, "set e 7; put a 0 e; put a 2 d; set f 2; get g a 0; gets h a f");
        Acts.has(x, "g", 0, 7);
        Acts.has(x, "h", 0, 1);
        // a THING without SLOTS has none
        Acts.done(x, "row a 0; plain b 0");
        Acts.refused(x, 3, "get f a 0");
        Acts.refused(x, 3, "get f b 0");
    }

    private static void slotsWritten() {
        Check.about("Terms 4, kind 3", "there is no such SLOT (put, puts)");
        for (String hand : new String[] {"a", "b"}) {
            for (int i : new int[] {-1, 3, LEAST, MOST, -2, 4}) {
                TwinHalves x = four();
                Acts.done(x, "set e " + i);
                Acts.refusedWithoutChange(x, 3, "put " + hand + " " + i + " d");
                Acts.refusedWithoutChange(x, 3, "puts " + hand + " e d");
            }
        }
        TwinHalves x = four();
        Acts.done(x, "set e 7; put b 0 e; set f 2; puts b f e");
        Check.shown(x, 1, "#1 {7 0 7}");
        Acts.done(x, "plain b 0");
        Acts.refused(x, 3, "put b 0 e");
    }

    private static void noThing() {
        Check.about("Terms 4, kind 2", "a HAND that has no THING (get, gets, put, puts)");
        for (String hand : new String[] {"c", "d"}) {
            Acts.refusedWithoutChange(four(), 2, "get e " + hand + " 0");
            Acts.refusedWithoutChange(four(), 2, "gets e " + hand + " d");
            Acts.refusedWithoutChange(four(), 2, "put " + hand + " 0 d");
            Acts.refusedWithoutChange(four(), 2, "puts " + hand + " d d");
        }
    }

    private static void noNumberForASlot() {
        Check.about("Terms 4, kind 1", "a HAND that has no NUMBER (gets, puts)");
        for (String hand : new String[] {"a", "b", "c"}) {
            Acts.refusedWithoutChange(four(), 1, "gets e a " + hand);
            Acts.refusedWithoutChange(four(), 1, "puts a " + hand + " d");
        }
    }

    private static void plainGetsNoNumber() {
        Check.about("Terms 4, kind 5", "a PLAIN one's SLOT gets what is no NUMBER");
        for (String hand : new String[] {"a", "b", "c"}) {
            Acts.refusedWithoutChange(four(), 5, "put b 2 " + hand);
            Acts.refusedWithoutChange(four(), 5, "puts b d " + hand);
            // a ROW's SLOT may get any WORD
            TwinHalves x = four();
            Acts.done(x, "put a 2 " + hand + "; puts a d " + hand);
            Check.due("slot(0, 2, 0)", x.slot(0, 2, 0), x.hand(hand.charAt(0) - 'a', 0));
            Check.due("slot(0, 1, 0)", x.slot(0, 1, 0), x.hand(hand.charAt(0) - 'a', 0));
        }
    }

    private static void leastOfSeveral() {
        Check.about("Terms 4", "of several that hold as it begins the least");
        TwinHalves x = four();
        Acts.refused(x, 1, "gets e c c");
        Acts.refused(x, 1, "gets e d a");
        Acts.refused(x, 1, "puts c c c");
        Acts.refused(x, 1, "puts d c a");
        Acts.refused(x, 1, "puts b c c");
        Acts.refused(x, 2, "get e c -1");
        Acts.refused(x, 2, "put c -1 a");
        Acts.done(x, "set f 3");
        Acts.refused(x, 2, "gets e c f");
        Acts.refused(x, 2, "puts c f a");
        Acts.refused(x, 3, "put b 3 c");
        Acts.refused(x, 3, "put b -1 a");
        Acts.refused(x, 3, "puts b f c");
        // 8 to 10 come behind them
        TwinHalves y = new TwinHalves(16, 1);
        Acts.done(y, "plain b 9; row a 2; put a 1 b; none b");
        Acts.turned(y, true);
        Acts.done(y, "row c 0");
        Acts.refused(y, 1, "gets d a b");
        Acts.refused(y, 3, "get d a 2");
        Acts.refused(y, 1, "rows d b");
        Acts.refused(y, 4, "row d 41");
        Acts.refused(y, 8, "row d 40");
        Acts.failures(y, 1, 0, 0);
    }

    private static void sizeOfNoThing() {
        Check.about("Terms 4, ACT 11", "how many SLOTS the THING has that S has (2)");
        Acts.refusedWithoutChange(four(), 2, "size e c");
        Acts.refusedWithoutChange(four(), 2, "size e d");
        TwinHalves x = new TwinHalves(60, 1);
        Acts.done(x, "row a 0; plain b 40; set c 9; size c a; size d b; size b b");
        Acts.has(x, "c", 0, 0);
        Acts.has(x, "d", 0, 40);
        Acts.has(x, "b", 0, 40);
    }

    private static void kinds() {
        Check.about("Terms 4, ACT 12", "R gets 0 if S has a NUMBER, 1 NOBODY, 2 a ROW, 3 a PLAIN one");
        TwinHalves x = four();
        Acts.done(x, "kind e a; kind f b; kind g c; kind h d");
        Acts.has(x, "e", 0, 2);
        Acts.has(x, "f", 0, 3);
        Acts.has(x, "g", 0, 1);
        Acts.has(x, "h", 0, 0);
        Acts.done(x, "kind c c");
        Acts.has(x, "c", 0, 1);
    }

    private static void reckoned(int s, int t, int sum, int difference, int product) {
        TwinHalves x = new TwinHalves(16, 1);
        Acts.done(x, "set a " + s + "; set b " + t + "; add c a b; sub d a b; mul e a b");
        Acts.has(x, "c", 0, sum);
        Acts.has(x, "d", 0, difference);
        Acts.has(x, "e", 0, product);
    }

    private static void wrapAround() {
        Check.about("Terms 4, ACTS 13 to 15", "S + T, S - T, S times T, of 32 bits");
        reckoned(MOST, 1, LEAST, MOST - 1, MOST);
        reckoned(LEAST, 1, LEAST + 1, MOST, LEAST);
        reckoned(LEAST, -1, MOST, LEAST + 1, LEAST);
        reckoned(MOST, MOST, -2, 0, 1);
        reckoned(LEAST, LEAST, 0, 0, 0);
        reckoned(0, LEAST, LEAST, LEAST, 0);
        reckoned(65536, 65536, 131072, 0, 0);
        reckoned(46341, 46341, 92682, 0, -2147479015);
        reckoned(-7, 3, -4, -10, -21);
    }

    private static void less() {
        Check.about("Terms 4, ACT 16", "R gets 1 if S is less than T, else 0");
        int[][] rows = {{1, 2, 1}, {2, 2, 0}, {3, 2, 0}, {-1, 0, 1}, {0, -1, 0}, {LEAST, MOST, 1}, {MOST, LEAST, 0},
            {LEAST, LEAST, 0}, {LEAST, 0, 1}, {0, LEAST, 0}};
        TwinHalves x = new TwinHalves(16, 1);
        for (int[] row : rows) {
            Acts.done(x, "set c 9; set a " + row[0] + "; set b " + row[1] + "; less c a b");
            Check.due("less " + row[0] + " " + row[1], x.hand(2, 1), row[2]);
        }
    }

    private static void noNumberToReckon() {
        Check.about("Terms 4, kind 1", "a HAND that has no NUMBER (add, sub, mul, less)");
        for (String word : new String[] {"add", "sub", "mul", "less"}) {
            for (String hand : new String[] {"a", "b", "c"}) {
                TwinHalves x = four();
                Acts.refusedWithoutChange(x, 1, word + " e d " + hand);
                Acts.refusedWithoutChange(x, 1, word + " e " + hand + " d");
                Acts.refused(x, 1, word + " e " + hand + " " + hand);
            }
        }
    }

    private static void same() {
        Check.about("Terms 4, ACT 17", "1 if both have the same NUMBER, or NOBODY, or the same THING, else 0");
        TwinHalves x = new TwinHalves(40, 1);
        Acts.done(x, "row a 0; row b 0; plain c 0; none d; none e; copy f a");
        String hands = "abcdef";
        int[] group = {0, 1, 2, 3, 3, 0};
        for (int s = 0; s < 6; s++) {
            for (int t = 0; t < 6; t++) {
                Acts.done(x, "same h " + hands.charAt(s) + " " + hands.charAt(t));
                int want = group[s] == group[t] ? 1 : 0;
                Check.due("same " + hands.charAt(s) + " " + hands.charAt(t), x.hand(7, 1), want);
            }
        }
        // NOBODY is the same, wherever it comes from
        Acts.done(x, "row g 2; get e g 0; same h d e");
        Acts.has(x, "h", 0, 1);
        Acts.done(x, "set e 5; put g 0 e; put g 0 d; get e g 0; get g g 1; same h e g");
        Acts.has(x, "h", 0, 1);
        Acts.done(x, "push d; pop e; same h e g");
        Acts.has(x, "h", 0, 1);
        // NUMBERS that tell of nothing, of a PLACE, of a length; none is the WORD meant
        for (int number : new int[] {0, 1, 2, 36, 38, -1}) {
            Acts.done(x, "set g " + number);
            for (int s = 0; s < 6; s++) {
                Acts.done(x, "same h g " + hands.charAt(s));
                Check.due("same " + number + " " + hands.charAt(s), x.hand(7, 1), 0);
            }
            Acts.done(x, "set f " + number + "; same h f g");
            Check.due("same " + number + " " + number, x.hand(7, 1), 1);
            Acts.done(x, "copy f a");
        }
    }

    private static void pushAndPop() {
        Check.about("Terms 4, kind 6", "the STACK has 50 WORDS already, or none");
        TwinHalves x = four();
        Acts.refusedWithoutChange(x, 6, "pop a");
        for (int i = 0; i < 12; i++) {
            Acts.done(x, "push a; push b; push c; push d");
        }
        Acts.done(x, "push a; push d");
        Acts.refusedWithoutChange(x, 6, "push b");
        Acts.done(x, "pop e");
        Acts.has(x, "e", 0, 1);
        Acts.done(x, "push b");
        Acts.refused(x, 6, "push d");
        Check.due("stack(49, 0)", x.stack(49, 0), 3);
        TwinHalves y = four();
        Acts.done(y, "push a; pop e");
        Acts.has(y, "e", 2, 3);
        Acts.refusedWithoutChange(y, 6, "pop a");
    }

    private static void ownHand() {
        Check.about("Terms 4", "R gets: also where R is S or T");
        TwinHalves x = four();
        Acts.done(x, "copy a a; put a 0 a; get e a 0; same e e a");
        Acts.has(x, "e", 0, 1);
        Acts.done(x, "set f 3; add f f f; mul f f f; sub f f d");
        Acts.has(x, "f", 0, 35);
        Acts.done(x, "less f d f; same f f f; rows f f");
        Acts.has(x, "f", 2, 1);
        Acts.done(x, "put f 0 b; get f f 0");
        Acts.has(x, "f", 3, 3);
        Acts.done(x, "puts b d d; gets d b d; put a 1 b; set g 1; gets g a g");
        Acts.has(x, "d", 0, 1);
        Acts.has(x, "g", 3, 3);
        Acts.done(x, "plains d d");
        Acts.has(x, "d", 3, 1);
    }

    private static TwinHalves started(String text) {
        TwinHalves x = new TwinHalves(40, 1);
        Check.start(x, text);
        return x;
    }

    private static void say() {
        Check.about("Terms 4, ACT 20", "the NUMBER is SAID (1)");
        TwinHalves x = started("set a -2147483648;say a;say b;none a;say a;");
        Check.due("run(9)", Check.run(x, 9), "4");
        Check.due("about(1)", x.about(1), 1);
        Check.due("about(6)", x.about(6), 2);
        Check.due("said(0)", Check.said(x, 0), "-2147483648");
        Check.due("said(1)", Check.said(x, 1), "0");
        for (String made : new String[] {"row", "plain"}) {
            TwinHalves y = started(made + " a 1;say a;");
            Check.due("run(9)", Check.run(y, 9), "1");
            Check.due("about(1)", y.about(1), 1);
            Check.due("about(6)", y.about(6), 0);
        }
    }

    private static void zero() {
        Check.about("Terms 4, ACT 22", "so, if R has the NUMBER 0");
        String[] given = {"set a 0", "set a -0", "set a 1", "set a -1", "set a -2147483648", "none a", "row a 0",
            "plain a 1"};
        int[] next = {3, 3, 2, 2, 2, 2, 2, 2};
        for (int i = 0; i < given.length; i++) {
            TwinHalves x = started(given[i] + ";zero a x;stop;x:stop;");
            Check.due("run(2)", Check.run(x, 2), "2");
            Check.due("about(2) behind " + given[i], x.about(2), next[i]);
        }
    }

    private static void jumps() {
        Check.about("Terms 4, ACT 21", "it goes on at the ACT behind L: the first, the last, itself");
        TwinHalves x = started("x:jump y;z:jump z;y:jump x;");
        int[] next = {2, 0, 2, 0};
        for (int want : next) {
            Check.due("run(1)", Check.run(x, 1), "1");
            Check.due("about(2)", x.about(2), want);
        }
        TwinHalves y = started("z:jump z;");
        Check.due("run(2000)", Check.run(y, 2000), "2000");
        Check.due("about(2)", y.about(2), 0);
    }

    private static void thirtyCalls() {
        Check.about("Terms 4, kind 7", "there are 30 open CALLS");
        TwinHalves x = started("x:zero a y;back;y:call x;");
        Check.due("run(2000)", Check.run(x, 2000), "61");
        Check.due("about(0)", x.about(0), 3);
        Check.due("about(1)", x.about(1), 7);
        Check.due("about(2)", x.about(2), 2);
        Check.due("about(5)", x.about(5), 30);
        Check.due("run(2000)", Check.run(x, 2000), "0");
        Check.due("about(5)", x.about(5), 30);
        // a CALL less, and one can be opened again
        TwinHalves y = started("x:call x;");
        Check.due("run(30)", Check.run(y, 30), "30");
        Check.due("about(0)", y.about(0), 1);
        Check.due("run(1)", Check.run(y, 1), "0");
        Check.due("about(1)", y.about(1), 7);
        TwinHalves z = started("set b 29;set c 1;x:zero b y;sub b b c;call x;back;y:call z;call z;back;z:back;");
        Check.due("run(2000)", Check.run(z, 2000), Integer.toString(2 + 29 * 3 + 1 + 4 + 1 + 28 + 1));
        Check.due("about(0)", z.about(0), 2);
        Check.due("about(5)", z.about(5), 0);
    }

    private static void backBehindTheLatest() {
        Check.about("Terms 4, ACT 24", "the latest CALL is open no more, and it goes on behind that");
        TwinHalves x = started("call x;stop;x:call y;back;y:back;");
        int[][] rows = {{2, 1}, {4, 2}, {3, 1}, {1, 0}};
        for (int[] row : rows) {
            Check.due("run(1)", Check.run(x, 1), "1");
            Check.due("about(2)", x.about(2), row[0]);
            Check.due("about(5)", x.about(5), row[1]);
        }
        // behind a CALL that is the last ACT is the END
        TwinHalves y = started("jump y;x:back;y:call x;");
        Check.due("run(9)", Check.run(y, 9), "3");
        Check.due("about(0)", y.about(0), 2);
        Check.due("about(4)", y.about(4), 3);
        Check.due("about(5)", y.about(5), 0);
    }

    private static void backWithoutACall() {
        Check.about("Terms 4, ACT 24", "without one it is the END");
        TwinHalves x = started("back;stop;");
        Check.due("run(9)", Check.run(x, 9), "1");
        Check.due("about(0)", x.about(0), 2);
        Check.due("about(2)", x.about(2), -1);
        Check.due("about(4)", x.about(4), 1);
    }

    private static void stopAndEnd() {
        Check.about("Terms 4, ACT 25", "stop: the END. Behind the last ACT is the END, too");
        TwinHalves x = started("stop;set a 5;");
        Check.due("run(9)", Check.run(x, 9), "1");
        Check.due("about(0)", x.about(0), 2);
        Acts.has(x, "a", 0, 0);
        TwinHalves y = started("stop;");
        Check.due("run(1)", Check.run(y, 1), "1");
        Check.due("about(0)", y.about(0), 2);
        TwinHalves z = started("set a 5;");
        Check.due("run(1)", Check.run(z, 1), "1");
        Check.due("about(0)", z.about(0), 2);
        Check.due("run(1)", Check.run(z, 1), "0");
        TwinHalves zero = started("zero b x;x:zero c x;");
        Check.due("run(1)", Check.run(zero, 1), "1");
        Acts.done(zero, "set c 1");
        Check.due("run(1)", Check.run(zero, 1), "1");
        Check.due("about(0)", zero.about(0), 2);
    }

    /** Each kind, by an ACT of a run: it is told by about(1), and the ACT is the next one still. */
    private static void eachRefusalInARun() {
        Check.about("Terms 4", "KINDS of refusals, in a run");
        String[] texts = {"none a;say a;", "size a b;", "plain a 1;get b a 1;", "row a 41;",
            "plain a 1;none b;put a 0 b;", "pop a;", "x:call x;"};
        int[] done = {1, 0, 1, 0, 2, 0, 30};
        for (int i = 0; i < texts.length; i++) {
            TwinHalves x = started(texts[i]);
            Check.due("run(99) of " + texts[i], Check.run(x, 99), Integer.toString(done[i]));
            Check.due("about(1) of " + texts[i], x.about(1), i + 1);
        }
        refusedBehindATurn(8, "plain b 9; row a 2; put a 1 b; set b 0", "row c 0;row d 0;", 1);
        refusedBehindATurn(8, "plain b 9; row a 2; put a 1 b; set b 0", "row c 0;get d a 1;", 1);
        refusedBehindATurn(9, "row a 10", "row b 3;", 0);
        refusedBehindATurn(10, "row a 10", "row b 0;row b 0;row b 3;row b 3;", 2);
    }

    private static void refusedBehindATurn(int kind, String ahead, String behind, int done) {
        TwinHalves x = new TwinHalves(16, 1);
        Acts.done(x, ahead);
        Acts.turned(x, true);
        if (kind == 10) {
            Acts.passed(x, 12, 12);
        }
        Check.start(x, behind);
        Check.due("run(99) of " + behind, Check.run(x, 99), Integer.toString(done));
        Check.due("about(0) of " + behind, x.about(0), 3);
        Check.due("about(1) of " + behind, x.about(1), kind);
        Check.due("about(2) of " + behind, x.about(2), done);
    }
}
