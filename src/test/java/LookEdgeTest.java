/** The boundary cases of promises 11 to 19: pass, turn, memory, hand, stack, slot, reach, show, letter. */
public final class LookEdgeTest {
    private static final int LEAST = Integer.MIN_VALUE;
    private static final int MOST = Integer.MAX_VALUE;

    public static void main(String[] args) {
        passWrongNumbers();
        passNoneAndMost();
        passTillFloor();
        passIsSpent();
        passIsNoMaking();
        turnOrNot();
        memoryOfAnother();
        latestTurn();
        countsOfFailures();
        mostPassedInOneMaking();
        countsInAll();
        sizeAndK();
        noSuchHand();
        handOfEachKind();
        noSuchStackWord();
        stackOfEachKind();
        noSuchSlot();
        slotOfEachKind();
        slotOfAThingOnItsWay();
        slotMovesNothing();
        reachOfAnother();
        reachNoneAndAll();
        reachSharedAndRound();
        reachMovesNothing();
        showAndLetter();
        Check.end();
    }

    private static void showAndLetter() {
        showNumbers();
        showNobodyAndEmpty();
        showInOrder();
        showNumbersOfThings();
        showThingsOnTheirWay();
        first600BytesAreKept();
        textStays();
        showMovesNothing();
        noSuchLetter();
    }

    /** Does a program's ACTS, all of them. */
    private static void runAll(TwinHalves x, String text, int acts) {
        Check.start(x, text);
        Check.due("run(2000) of " + text, Check.run(x, 2000), Integer.toString(acts));
        Check.due("about(0)", x.about(0), 2);
    }

    private static void passWrongNumbers() {
        Check.about("Promise 11", "n (0 .. 1000); NONE for another n");
        TwinHalves x = new TwinHalves(40, 1);
        Acts.done(x, "row a 3");
        Acts.turned(x, true);
        for (int n : new int[] {-1, 1001, LEAST, MOST}) {
            Acts.passed(x, n, -1);
            Acts.lies(x, 5, 0, 40);
        }
        Check.memory(x, 6, 0);
    }

    private static void passNoneAndMost() {
        Check.about("Promise 11", "Words are PASSED, n (0 .. 1000) of them");
        TwinHalves x = new TwinHalves(1200, 1);
        for (int i = 0; i < 25; i++) {
            Acts.done(x, "row a 40; push a");
        }
        Acts.turned(x, true);
        Acts.lies(x, 1050, 0, 1200);
        Acts.passed(x, 0, 0);
        Acts.passed(x, 1, 1);
        Acts.passed(x, 999, 999);
        Acts.turned(x, false);
        Acts.passed(x, 50, 50);
        Acts.turned(x, true);
        Acts.passed(x, 1000, 1000);
        Acts.lies(x, 1050, 1000, 1200);
        Acts.passed(x, 1000, 50);
        Check.memory(x, 6, 2100);
    }

    private static void passTillFloor() {
        Check.about("Promise 11", "or till PASSED is FLOOR: how many");
        TwinHalves x = new TwinHalves(40, 1);
        Acts.passed(x, 1000, 0);
        Acts.done(x, "plain b 4; row a 1; put a 0 b; set b 0");
        Acts.passed(x, 1000, 0);
        Acts.turned(x, true);
        Acts.passed(x, 2, 2);
        // the THING that the next word MOVES is PASSED, too
        Acts.passed(x, 8, 7);
        Acts.passed(x, 1, 0);
        Acts.lies(x, 9, 9, 40);
    }

    /** HAND a has a ROW of 2; SLOT 1 has a PLAIN one of 9 that is too long for what is free; PASSED is 2. */
    private static TwinHalves narrow() {
        TwinHalves x = new TwinHalves(16, 1);
        Acts.done(x, "plain b 9; row a 2; put a 1 b; set b 0");
        Acts.turned(x, true);
        Acts.done(x, "row c 0");
        Acts.lies(x, 4, 2, 14);
        return x;
    }

    private static void passIsSpent() {
        Check.about("Promise 11", "or one is SPENT: how many (SPENT counts)");
        TwinHalves x = narrow();
        Acts.passed(x, 0, 0);
        Acts.failures(x, 0, 0, 0);
        Acts.passed(x, 1, 1);
        Acts.failures(x, 0, 0, 0);
        Acts.passed(x, 1, 0);
        Acts.failures(x, 1, 0, 0);
        Acts.passed(x, 1000, 0);
        Acts.failures(x, 2, 0, 0);
        TwinHalves y = narrow();
        Acts.passed(y, 2, 1);
        Acts.failures(y, 1, 0, 0);
    }

    private static void passIsNoMaking() {
        Check.about("Promise 11", "That is no making");
        TwinHalves x = new TwinHalves(100, 1);
        Acts.done(x, "row a 40");
        Acts.turned(x, true);
        Acts.passed(x, 30, 30);
        Check.memory(x, 11, 0);
        Check.memory(x, 6, 30);
        Check.memory(x, 7, 1);
        Acts.done(x, "row b 0");
        Check.memory(x, 11, 2);
    }

    private static void turnOrNot() {
        Check.about("Promise 12", "A TURN, if PASSED is FLOOR: whether it came");
        TwinHalves x = new TwinHalves(40, 1);
        Acts.turned(x, true);
        Acts.turned(x, true);
        Acts.done(x, "row a 0");
        Acts.turned(x, true);
        for (int i = 0; i < 2; i++) {
            String before = Acts.memoryOf(x);
            Acts.turned(x, false);
            Check.due("the memory", Acts.memoryOf(x), before);
            Acts.passed(x, 1, 1);
        }
        Acts.turned(x, true);
        Check.memory(x, 4, 4);
    }

    private static void memoryOfAnother() {
        Check.about("Promise 13", "NONE for another what");
        TwinHalves x = narrow();
        for (int what : new int[] {-1, 15, 16, LEAST, MOST}) {
            Check.memory(x, what, -1);
        }
    }

    private static void latestTurn() {
        Check.about("Promise 13", "12 THINGS that the latest TURN MOVED (0 ahead of any)");
        TwinHalves x = new TwinHalves(40, 1);
        Check.memory(x, 12, 0);
        Acts.done(x, "row a 1; row b 0; put a 0 b; row c 0; copy d c");
        Check.memory(x, 12, 0);
        Acts.turned(x, true);
        Check.memory(x, 12, 3);
        Acts.done(x, "set b 0; set c 0; set d 0");
        Acts.passed(x, 1000, 7);
        Acts.turned(x, true);
        Check.memory(x, 12, 1);
        // MOVED behind the TURN: not counted there
        Acts.passed(x, 1000, 5);
        Check.memory(x, 12, 1);
        Check.memory(x, 5, 5);
        Acts.done(x, "set a 0");
        Acts.turned(x, true);
        Check.memory(x, 12, 0);
        // a TURN that a making brings
        TwinHalves y = new TwinHalves(16, 1);
        Acts.done(y, "row a 2; row b 2; row b 2; row c 4");
        Check.memory(y, 4, 1);
        Check.memory(y, 12, 2);
    }

    private static void countsOfFailures() {
        Check.about("Promise 13", "8, 9, 10 how often it was SPENT, LATE, FULL");
        TwinHalves x = narrow();
        Acts.refused(x, 8, "get d a 1");
        Acts.failures(x, 1, 0, 0);
        Acts.refused(x, 8, "row d 0");
        Acts.failures(x, 2, 0, 0);
        Acts.passed(x, 1, 0);
        Acts.failures(x, 3, 0, 0);
        TwinHalves y = new TwinHalves(16, 1);
        Acts.refused(y, 10, "row a 15");
        Acts.failures(y, 0, 0, 1);
        Acts.done(y, "row a 10");
        Acts.turned(y, true);
        Acts.refused(y, 9, "row b 3");
        Acts.failures(y, 0, 1, 1);
        Acts.refused(y, 9, "row b 3");
        Acts.failures(y, 0, 2, 1);
        Acts.refused(y, 10, "row b 3");
        Acts.failures(y, 0, 2, 2);
        // what is refused for another kind is none of these
        Acts.refused(y, 4, "row b 41");
        Acts.refused(y, 6, "pop b");
        Acts.failures(y, 0, 2, 2);
    }

    private static void mostPassedInOneMaking() {
        Check.about("Promise 13", "11 the most words PASSED in one making (also of one that was refused)");
        TwinHalves x = new TwinHalves(60, 2);
        Acts.done(x, "row a 40");
        Check.memory(x, 11, 0);
        Acts.turned(x, true);
        Acts.done(x, "row b 1");
        Check.memory(x, 11, 6);
        Acts.done(x, "row b 0");
        Check.memory(x, 11, 6);
        Acts.done(x, "row b 1");
        Check.memory(x, 11, 6);
        // LATE
        Acts.refused(x, 9, "row b 9");
        Check.memory(x, 11, 22);
        Acts.lies(x, 42, 38, 52);
        // FULL: the 4 words that were left are less
        Acts.refused(x, 10, "row b 20");
        Check.memory(x, 11, 22);
        Check.memory(x, 6, 42);
        // SPENT
        TwinHalves y = new TwinHalves(20, 1);
        Acts.done(y, "plain b 8; row a 6; put a 5 b; set b 0");
        Acts.turned(y, true);
        Acts.done(y, "row c 0; row c 0");
        Acts.lies(y, 8, 4, 16);
        Check.memory(y, 11, 2);
        Acts.refused(y, 8, "row c 2");
        Acts.lies(y, 8, 7, 16);
        Check.memory(y, 11, 3);
    }

    private static void countsInAll() {
        Check.about("Promise 13", "in all: 4 TURNS, 5 THINGS MOVED, 6 words PASSED, 7 THINGS MADE");
        TwinHalves x = new TwinHalves(40, 1);
        Acts.done(x, "row a 1; plain b 0; put a 0 b; set b 0");
        Check.memory(x, 7, 2);
        int passed = 0;
        for (int turns = 1; turns <= 5; turns++) {
            Acts.turned(x, true);
            Check.memory(x, 4, turns);
            Check.memory(x, 5, 2 * turns - 1);
            Acts.passed(x, 1000, 5);
            passed += 5;
            Check.memory(x, 5, 2 * turns);
            Check.memory(x, 6, passed);
        }
        Acts.refused(x, 4, "row c 41");
        Check.memory(x, 7, 2);
        Acts.done(x, "row c 0");
        Check.memory(x, 7, 3);
    }

    private static void sizeAndK() {
        Check.about("Promise 13", "13 SIZE, 14 K: as they are, whatever was done");
        TwinHalves x = narrow();
        Check.memory(x, 13, 16);
        Check.memory(x, 14, 1);
        TwinHalves y = new TwinHalves(5000, 50);
        Check.memory(y, 13, 1200);
        Check.memory(y, 14, 6);
    }

    /** HAND a has a ROW of 4 SLOTS, b a PLAIN one of none, c NOBODY, d the least and e the greatest NUMBER. */
    private static TwinHalves five() {
        TwinHalves x = new TwinHalves(40, 1);
        Acts.done(x, "row a 4; plain b 0; none c; set d -2147483648; set e 2147483647");
        return x;
    }

    private static void noSuchHand() {
        Check.about("Promise 14", "NONE if there is none such");
        TwinHalves x = five();
        for (int what = 0; what < 3; what++) {
            for (int r : new int[] {-1, 8, LEAST, MOST}) {
                Check.due("hand(" + r + ", " + what + ")", x.hand(r, what), -1);
            }
        }
        for (int what : new int[] {-1, 3, 4, LEAST, MOST}) {
            for (int r = -1; r < 9; r++) {
                Check.due("hand(" + r + ", " + what + ")", x.hand(r, what), -1);
            }
        }
    }

    private static void handOfEachKind() {
        Check.about("Promise 14", "the NUMBER, how many SLOTS the THING has (0 of NOBODY); the PLACE (NONE of others)");
        TwinHalves x = five();
        int[][] rows = {{2, 4, 34}, {3, 0, 32}, {1, 0, -1}, {0, LEAST, -1}, {0, MOST, -1}, {0, 0, -1}};
        for (int r = 0; r < rows.length; r++) {
            for (int what = 0; what < 3; what++) {
                Check.due("hand(" + r + ", " + what + ")", x.hand(r, what), rows[r][what]);
            }
        }
        // NOBODY where a THING and a NUMBER were
        Acts.done(x, "none a; none e");
        Acts.has(x, "a", 1, 0);
        Acts.has(x, "e", 1, 0);
        Acts.place(x, "a", -1);
    }

    private static void noSuchStackWord() {
        Check.about("Promise 15", "Likewise of the k-th WORD of the STACK: NONE if there is none such");
        TwinHalves x = five();
        Check.due("stack(0, 0)", x.stack(0, 0), -1);
        Check.due("stack(-1, 0)", x.stack(-1, 0), -1);
        Acts.done(x, "push a; push b");
        for (int what = 0; what < 3; what++) {
            for (int k : new int[] {-1, -8, 2, 49, 50, LEAST, MOST}) {
                Check.due("stack(" + k + ", " + what + ")", x.stack(k, what), -1);
            }
        }
        for (int what : new int[] {-1, 3, LEAST, MOST}) {
            Check.due("stack(0, " + what + ")", x.stack(0, what), -1);
        }
        Acts.done(x, "pop f");
        Check.due("stack(1, 0)", x.stack(1, 0), -1);
        Check.due("stack(0, 0)", x.stack(0, 0), 2);
        Acts.done(x, "pop f");
        Check.due("stack(0, 0)", x.stack(0, 0), -1);
    }

    private static void stackOfEachKind() {
        Check.about("Promise 15", "from below (0 first)");
        TwinHalves x = five();
        for (int i = 0; i < 10; i++) {
            Acts.done(x, "push e; push d; push c; push b; push a");
        }
        int[][] rows = {{0, MOST, -1}, {0, LEAST, -1}, {1, 0, -1}, {3, 0, 32}, {2, 4, 34}};
        for (int k : new int[] {0, 1, 2, 3, 4, 25, 45, 46, 47, 48, 49}) {
            for (int what = 0; what < 3; what++) {
                Check.due("stack(" + k + ", " + what + ")", x.stack(k, what), rows[k % 5][what]);
            }
        }
    }

    private static void noSuchSlot() {
        Check.about("Promise 16", "NONE if there is none such");
        TwinHalves x = five();
        for (int i : new int[] {-1, 4, 40, LEAST, MOST}) {
            Acts.slot(x, "a", i, -1, -1, -1);
        }
        Acts.slot(x, "b", 0, -1, -1, -1);
        Acts.slot(x, "c", 0, -1, -1, -1);
        Acts.slot(x, "f", 0, -1, -1, -1);
        for (int r : new int[] {-1, 8, LEAST, MOST}) {
            for (int what = 0; what < 3; what++) {
                Check.due("slot(" + r + ", 0, " + what + ")", x.slot(r, 0, what), -1);
            }
        }
        for (int what : new int[] {-1, 3, LEAST, MOST}) {
            Check.due("slot(0, 0, " + what + ")", x.slot(0, 0, what), -1);
        }
    }

    private static void slotOfEachKind() {
        Check.about("Promise 16", "what 0, 1 as of a HAND; 2: the half in which its THING lies (NONE of others)");
        TwinHalves x = five();
        Acts.done(x, "put a 0 b; put a 2 d; put a 3 a");
        Acts.slot(x, "a", 0, 3, 0, 0);
        Acts.slot(x, "a", 1, 1, 0, -1);
        Acts.slot(x, "a", 2, 0, LEAST, -1);
        Acts.slot(x, "a", 3, 2, 4, 0);
        Acts.done(x, "set b 0");
        Acts.turned(x, true);
        Acts.slot(x, "a", 0, 3, 0, 0);
        Acts.slot(x, "a", 3, 2, 4, 1);
        Acts.passed(x, 3, 3);
        Acts.slot(x, "a", 0, 3, 0, 1);
        Acts.slot(x, "a", 1, 1, 0, -1);
        Acts.slot(x, "a", 2, 0, LEAST, -1);
    }

    /** HAND a's ROW has one THING, which is MOVED, in both SLOTS, but SLOT 1 is not PASSED yet. */
    private static TwinHalves onItsWay() {
        TwinHalves x = new TwinHalves(40, 1);
        Acts.done(x, "row b 1; row a 2; put b 0 b; put a 0 b; put a 1 b; set b 0");
        Acts.turned(x, true);
        Acts.passed(x, 3, 3);
        return x;
    }

    private static void slotOfAThingOnItsWay() {
        Check.about("Promise 16", "2: the half in which its THING lies, also if another SLOT had it MOVED");
        TwinHalves x = onItsWay();
        Acts.slot(x, "a", 0, 2, 1, 1);
        Acts.slot(x, "a", 1, 2, 1, 1);
        Acts.passed(x, 1000, 4);
        Acts.slot(x, "a", 1, 2, 1, 1);
    }

    private static void slotMovesNothing() {
        Check.about("Promise 16", "Nothing is READ by that, nor MOVED");
        TwinHalves x = narrow();
        String before = Acts.memoryOf(x);
        for (int what = 0; what < 3; what++) {
            x.slot(0, 1, what);
        }
        Check.due("the memory", Acts.memoryOf(x), before);
        Acts.slot(x, "a", 1, 3, 9, 0);
        Acts.failures(x, 0, 0, 0);
    }

    private static void reachOfAnother() {
        Check.about("Promise 17", "NONE for another what");
        TwinHalves x = five();
        for (int what : new int[] {-1, 2, 3, LEAST, MOST}) {
            Check.due("reach(" + what + ")", x.reach(what), -1);
        }
    }

    private static void reachNoneAndAll() {
        Check.about("Promise 17", "how many THINGS can be reached from the ROOTS; how many words these take");
        TwinHalves x = new TwinHalves(1200, 1);
        Acts.reached(x, 0, 0);
        // a chain of 400 ROWS takes all of a half
        runAll(x, "set b 1;set c 200;x:row d 1;put d 0 a;row a 1;put a 0 d;sub c c b;zero c y;jump x;y:none d;",
                2 + 200 * 7 - 1 + 1);
        Acts.lies(x, 0, 0, 0);
        Acts.reached(x, 400, 1200);
        Acts.turned(x, true);
        Acts.reached(x, 400, 1200);
        Acts.passed(x, 600, 600);
        Acts.reached(x, 400, 1200);
        // with one on the STACK alone
        Acts.done(x, "push a; set a 0");
        Acts.reached(x, 400, 1200);
        Acts.done(x, "pop a; get a a 0");
        Acts.reached(x, 399, 1197);
        Acts.done(x, "set a 0");
        Acts.reached(x, 0, 0);
    }

    private static void reachSharedAndRound() {
        Check.about("Promise 17", "THINGS that can be reached: each once, and not beyond what is reached");
        TwinHalves x = new TwinHalves(60, 1);
        Acts.done(x, "row a 2; row b 2; put a 0 b; put b 0 a; put a 1 a; put b 1 b; push a; push b; copy c a");
        Acts.reached(x, 2, 8);
        Acts.done(x, "plain d 0; plain e 40; put a 1 d; set e 0");
        Acts.reached(x, 3, 10);
        Acts.done(x, "set a 0; set b 0; set c 0; set d 0");
        Acts.reached(x, 3, 10);
        Acts.done(x, "pop f");
        Acts.reached(x, 3, 10);
        Acts.done(x, "set f 0");
        Acts.reached(x, 3, 10);
        Acts.done(x, "pop f; set f 0");
        Acts.reached(x, 0, 0);
        Acts.reached(onItsWay(), 2, 7);
    }

    private static void reachMovesNothing() {
        Check.about("Promise 17", "Nothing is MOVED");
        TwinHalves x = narrow();
        Acts.reached(x, 3, 17);
        Acts.lies(x, 4, 2, 14);
        Acts.failures(x, 0, 0, 0);
        Check.memory(x, 5, 1);
        Acts.slot(x, "a", 1, 3, 9, 0);
    }

    private static void showNumbers() {
        Check.about("Promise 18", "a NUMBER's digits (a - ahead, if it is below 0)");
        TwinHalves x = new TwinHalves(16, 1);
        int[] numbers = {0, 1, -1, 9, 10, -10, 99, 100, 101, 1000000000, 999999999, -999999999, MOST, LEAST};
        for (int number : numbers) {
            Acts.done(x, "set h " + number);
            Check.shown(x, 7, Integer.toString(number));
        }
    }

    private static void showNobodyAndEmpty() {
        Check.about("Promise 18", ". for NOBODY; THINGS without SLOTS, with one");
        TwinHalves x = new TwinHalves(40, 1);
        Acts.done(x, "none a; row b 0; plain c 0; row d 1; plain e 1");
        Check.shown(x, 0, ".");
        Check.shown(x, 1, "#1 []");
        Check.shown(x, 2, "#1 {}");
        Check.shown(x, 3, "#1 [.]");
        Check.shown(x, 4, "#1 {0}");
        Check.shown(x, 5, "0");
        Acts.done(x, "put d 0 b");
        Check.shown(x, 3, "#1 [#2] []");
        Acts.done(x, "put d 0 d");
        Check.shown(x, 3, "#1 [#1]");
    }

    private static void showInOrder() {
        Check.about("Promise 18", "for each THING that was written as a WORD, in the order in which these were first");
        TwinHalves x = new TwinHalves(80, 1);
        Acts.done(x, "row a 4; row b 2; row c 3; plain d 2; put a 0 c; put a 1 b; put a 3 c; put b 0 d; put b 1 a");
        Acts.done(x, "put c 0 b; put c 1 c; set e -5; put c 2 e; put d 1 e");
        Check.shown(x, 0, "#1 [#2 #3 . #2] [#3 #2 -5] [#4 #1] {0 -5}");
        Check.shown(x, 1, "#1 [#2 #3] {0 -5} [#4 #1 . #4] [#1 #4 -5]");
        Check.shown(x, 2, "#1 [#2 #1 -5] [#3 #4] {0 -5} [#1 #2 . #1]");
        Check.shown(x, 3, "#1 {0 -5}");
    }

    private static void showNumbersOfThings() {
        Check.about("Promise 18", "# and a number for a THING (1 for the first that is written so, then 2, and so on)");
        TwinHalves x = new TwinHalves(200, 1);
        runAll(x, "row a 40;set b 11;set c 1;x:sub b b c;row d 0;puts a b d;zero b y;jump x;y:stop;",
                3 + 11 * 5 - 1 + 1);
        StringBuilder all = new StringBuilder("#1 [");
        for (int i = 0; i < 11; i++) {
            all.append('#').append(i + 2).append(' ');
        }
        all.append(". ".repeat(28)).append(".]").append(" []".repeat(11));
        Check.shown(x, 0, all.toString());
    }

    private static void showThingsOnTheirWay() {
        Check.about("Promise 18", "always the same for one THING");
        TwinHalves x = onItsWay();
        Check.shown(x, 0, "#1 [#2 #2] [#2]");
        Acts.passed(x, 1, 1);
        Check.shown(x, 0, "#1 [#2 #2] [#2]");
        Acts.done(x, "get b a 1");
        Check.shown(x, 1, "#1 [#1]");
        // what was shown before has no say
        Check.shown(x, 0, "#1 [#2 #2] [#2]");
    }

    /** HAND a's text is 596 bytes and those of a NUMBER long; HAND e has the NUMBER 0. */
    private static TwinHalves longText(int number) {
        TwinHalves x = new TwinHalves(100, 1);
        Acts.done(x, "row a 40; plain b 40; put a 39 b; set c -1111111111; set d " + number);
        for (int i = 0; i < 39; i++) {
            Acts.done(x, "put a " + i + " c");
        }
        Acts.done(x, "put b 0 c; put b 1 c; put b 2 c; put b 3 c; put b 39 d");
        return x;
    }

    private static void letters(TwinHalves x, String all, int from, int to) {
        for (int i = from; i < to; i++) {
            Check.due("letter(" + i + ")", x.letter(i), i < all.length() && i < 600 ? all.charAt(i) : -1);
        }
    }

    private static void first600BytesAreKept() {
        Check.about("Promise 18", "The first 600 bytes are kept: how many there are");
        for (int number : new int[] {123, 1234, 12345, MOST, LEAST}) {
            TwinHalves x = longText(number);
            String all = "#1 [" + "-1111111111 ".repeat(39) + "#2] {" + "-1111111111 ".repeat(4) + "0 ".repeat(35)
                    + number + "}";
            Check.due("there are so many bytes", all.length(), 596 + Integer.toString(number).length());
            Check.due("show(0)", x.show(0), Math.min(600, all.length()));
            letters(x, all, 0, 10);
            letters(x, all, 470, 605);
            // a shorter TEXT leaves nothing of it
            Check.due("show(4)", x.show(4), 1);
            letters(x, "0", 0, 3);
            letters(x, "0", 590, 602);
        }
    }

    private static void textStays() {
        Check.about("Promise 18", "NONE, and TEXT stays, if there is no such HAND");
        TwinHalves x = five();
        for (int r : new int[] {-1, 8, LEAST, MOST}) {
            Check.due("show(" + r + ")", x.show(r), -1);
            Check.due("letter(0)", x.letter(0), -1);
        }
        Check.shown(x, 4, "2147483647");
        for (int r : new int[] {-1, 8, LEAST, MOST}) {
            Check.due("show(" + r + ")", x.show(r), -1);
            Check.due("TEXT", Check.text(x), "2147483647");
        }
        // TEXT is what the HAND had as it was shown
        Acts.done(x, "set e 1");
        Check.due("TEXT", Check.text(x), "2147483647");
        Check.shown(x, 4, "1");
    }

    private static void showMovesNothing() {
        Check.about("Promise 18", "Nothing is MOVED");
        TwinHalves x = narrow();
        String before = Acts.memoryOf(x);
        Check.shown(x, 0, "#1 [. #2] {0 0 0 0 0 0 0 0 0}");
        Check.due("the memory", Acts.memoryOf(x), before);
        Acts.slot(x, "a", 1, 3, 9, 0);
    }

    private static void noSuchLetter() {
        Check.about("Promise 19", "Byte i of TEXT; NONE if there is none");
        TwinHalves x = five();
        Check.due("letter(0) ahead of any show()", x.letter(0), -1);
        Check.shown(x, 3, "-2147483648");
        for (int i : new int[] {-1, 11, 12, 599, 600, LEAST, MOST}) {
            Check.due("letter(" + i + ")", x.letter(i), -1);
        }
        Check.due("letter(0)", x.letter(0), '-');
        Check.due("letter(10)", x.letter(10), '8');
        Check.shown(x, 5, "0");
        Check.due("letter(0)", x.letter(0), '0');
        Check.due("letter(1)", x.letter(1), -1);
    }
}
