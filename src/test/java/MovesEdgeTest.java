/** The boundary cases of "Terms", part 2: MOVE, PASS, TURN, MAKE, READ. */
public final class MovesEdgeTest {
    private static final String MOVE = "Terms 2, MOVE";
    private static final String PASS = "Terms 2, PASS";
    private static final String TURN = "Terms 2, TURN";
    private static final String MAKE = "Terms 2, MAKE";
    private static final String READ = "Terms 2, READ";

    public static void main(String[] args) {
        atFirst();
        passedIsNeverAboveFloor();
        movedToFloor();
        moveUpToRoof();
        moveBeyondRoof();
        movedSlotsAreNotChanged();
        movedOnce();
        passOnlyBelowFloor();
        passWordsWithoutOldThings();
        passHeadWords();
        passIsSpent();
        turnOnlyAtFloor();
        turnWithoutThings();
        turnChangesHalves();
        turnMovesRootsOnly();
        turnHasAlwaysRoom();
        notMovedIsGone();
        makingAndReading();
        Check.end();
    }

    private static void makingAndReading() {
        makePassesKTimesItsWords();
        makePassesTheMost();
        makePassesTillFloor();
        makePassesWhatItMoved();
        makeWithExactRoom();
        makeIsLateByOneWord();
        makeTurnsAtFloor();
        makeWithExactRoomBehindTurn();
        makeIsFullByOneWord();
        makeIsSpent();
        makeIsNotSpentBehindItsWords();
        makeKeepsItsOldHandAsRoot();
        madeLiesAtRoof();
        madeIsNotPassed();
        readWithoutMove();
        readMoves();
        readIsSpent();
    }

    /**
     * HAND a has a ROW of n SLOTS that a TURN MOVED; its last SLOT has a PLAIN one of m SLOTS, which
     * lies in the OLD half, 0, still. FLOOR is n + 2.
     */
    private static TwinHalves waiting(int size, int k, int n, int m) {
        TwinHalves x = new TwinHalves(size, k);
        Acts.done(x, "plain b " + m + "; row a " + n + "; put a " + (n - 1) + " b; set b 0");
        Acts.turned(x, true);
        Acts.lies(x, n + 2, 0, size);
        return x;
    }

    private static void atFirst() {
        Check.about("Terms 2", "At first FLOOR and PASSED are 0, ROOF is SIZE");
        Acts.lies(new TwinHalves(16, 1), 0, 0, 16);
        Acts.lies(new TwinHalves(1200, 6), 0, 0, 1200);
    }

    private static void passedIsNeverAboveFloor() {
        Check.about("Terms 2", "PASSED is never above FLOOR");
        TwinHalves x = waiting(60, 6, 1, 3);
        Acts.passed(x, 1000, 8);
        Acts.lies(x, 8, 8, 60);
        Acts.passed(x, 1, 0);
        Acts.done(x, "row c 4");
        Acts.lies(x, 8, 8, 54);
    }

    private static void movedToFloor() {
        Check.about(MOVE, "comes to lie at FLOOR of the PRESENT one, and FLOOR is more by its words");
        TwinHalves x = waiting(60, 1, 1, 0);
        Acts.passed(x, 3, 3);
        Acts.lies(x, 5, 3, 60);
        Acts.done(x, "get b a 0");
        Acts.place(x, "b", 3);
        TwinHalves most = waiting(100, 1, 40, 40);
        Acts.passed(most, 42, 42);
        Acts.lies(most, 84, 42, 100);
        Acts.done(most, "get b a 39");
        Acts.place(most, "b", 42);
    }

    private static void moveUpToRoof() {
        Check.about(MOVE, "If FLOOR would be above ROOF: FLOOR and ROOF may be the same");
        // 4 words are MOVED, 2 MADE; the 10 between are just enough
        TwinHalves x = waiting(16, 1, 2, 8);
        Acts.done(x, "row c 0");
        Acts.lies(x, 4, 2, 14);
        Acts.passed(x, 2, 2);
        Acts.lies(x, 14, 4, 14);
        Acts.slot(x, "a", 1, 3, 8, 1);
        Check.memory(x, 5, 2);
        Acts.failures(x, 0, 0, 0);
    }

    private static void moveBeyondRoof() {
        Check.about(MOVE, "If FLOOR would be above ROOF, nothing of that is done: SPENT");
        TwinHalves x = waiting(16, 1, 2, 9);
        Acts.done(x, "row c 0");
        Acts.lies(x, 4, 2, 14);
        Acts.passed(x, 2, 1);
        Acts.lies(x, 4, 3, 14);
        Acts.slot(x, "a", 1, 3, 9, 0);
        Check.memory(x, 5, 1);
        Acts.failures(x, 1, 0, 0);
    }

    private static void movedSlotsAreNotChanged() {
        Check.about(MOVE, "What its SLOTS have is not changed by that: also THINGS that lie in the OLD half still");
        TwinHalves x = new TwinHalves(60, 1);
        Acts.done(x, "row b 1; row c 2; put b 0 c; put c 0 b; put c 1 c; row a 1; put a 0 b; set b 0; set c 0");
        Acts.turned(x, true);
        Acts.slot(x, "a", 0, 2, 1, 0);
        Acts.done(x, "get b a 0");
        Check.memory(x, 5, 2);
        Acts.slot(x, "a", 0, 2, 1, 1);
        Acts.slot(x, "b", 0, 2, 2, 0);
        Acts.done(x, "get c b 0");
        Check.memory(x, 5, 3);
        Acts.slot(x, "b", 0, 2, 2, 1);
        Acts.slot(x, "c", 0, 2, 1, 1);
        Acts.slot(x, "c", 1, 2, 2, 1);
        Check.memory(x, 1, 0);
    }

    private static void movedOnce() {
        Check.about(MOVE, "a THING of the OLD half: one that was MOVED is none any more");
        TwinHalves x = new TwinHalves(60, 1);
        Acts.done(x, "plain b 2; row a 3; put a 0 b; put a 1 b; put a 2 b; set b 0");
        Acts.turned(x, true);
        Acts.done(x, "get b a 1; get c a 0");
        Acts.passed(x, 1000, 9);
        Acts.lies(x, 9, 9, 60);
        Check.memory(x, 5, 2);
        Acts.reached(x, 2, 9);
    }

    private static void passOnlyBelowFloor() {
        Check.about(PASS, "only where PASSED is below FLOOR");
        TwinHalves x = new TwinHalves(40, 1);
        Acts.done(x, "row a 1");
        Acts.passed(x, 1, 0);
        Check.memory(x, 6, 0);
        Acts.turned(x, true);
        Acts.passed(x, 2, 2);
        Acts.passed(x, 2, 1);
        Acts.passed(x, 2, 0);
        Check.memory(x, 6, 3);
    }

    private static void passWordsWithoutOldThings() {
        Check.about(PASS, "if the word is a SLOT's, and that has a THING of the OLD half: else nothing is MOVED");
        TwinHalves x = new TwinHalves(16, 1);
        // 11 and 0 are NUMBERS, though THINGS lie at these PLACES
        Acts.done(x, "row a 3; plain c 2; set e 11; put a 0 d; put a 2 a; put c 0 e; put c 1 d");
        Acts.place(x, "a", 11);
        Acts.done(x, "row f 5; set f 0");
        Acts.turned(x, true);
        for (int word = 1; word <= 9; word++) {
            Acts.passed(x, 1, 1);
            Acts.lies(x, 9, word, 16);
            Check.memory(x, 5, 2);
            Check.memory(x, 6, word);
        }
        Check.shown(x, 0, "#1 [0 . #1]");
        Check.shown(x, 2, "#1 {11 0}");
    }

    private static void passHeadWords() {
        Check.about(PASS, "if the word is a SLOT's: a HEAD's is none, whatever SLOT lay there before");
        for (int n : new int[] {14, 13}) {
            TwinHalves x = new TwinHalves(16, 1);
            Acts.done(x, "row a " + n);
            for (int i = 0; i < n; i++) {
                Acts.done(x, "put a " + i + " a");
            }
            Acts.done(x, "set a 0");
            Acts.turned(x, true);
            Acts.turned(x, true);
            Acts.done(x, "plain a 0; row b 1; plain c 2");
            Acts.turned(x, true);
            Acts.lies(x, 9, 0, 16);
            Acts.passed(x, 1000, 9);
            Acts.lies(x, 9, 9, 16);
            Check.memory(x, 5, 3);
            Acts.failures(x, 0, 0, 0);
        }
    }

    private static void passIsSpent() {
        Check.about(PASS, "SPENT: then the word isn't PASSED");
        TwinHalves x = waiting(16, 1, 2, 9);
        Acts.done(x, "row c 0");
        Acts.passed(x, 1000, 1);
        for (int spent = 1; spent < 4; spent++) {
            Acts.failures(x, spent, 0, 0);
            Acts.lies(x, 4, 3, 14);
            Check.memory(x, 6, 3);
            Acts.passed(x, 1000, 0);
        }
        // with another WORD in that SLOT it can be PASSED
        Acts.done(x, "put a 1 d");
        Acts.passed(x, 1000, 1);
        Acts.lies(x, 4, 4, 14);
    }

    private static void turnOnlyAtFloor() {
        Check.about(TURN, "only where PASSED is FLOOR");
        TwinHalves x = waiting(40, 1, 3, 2);
        Acts.passed(x, 4, 4);
        for (int passed = 4; passed < 9; passed++) {
            Acts.turned(x, false);
            Check.memory(x, 4, 1);
            Check.memory(x, 3, 1);
            Acts.passed(x, 1, 1);
        }
        Acts.lies(x, 9, 9, 40);
        Acts.turned(x, true);
        Acts.lies(x, 5, 0, 40);
        Check.memory(x, 4, 2);
    }

    private static void turnWithoutThings() {
        Check.about(TURN, "where FLOOR is 0, PASSED is FLOOR");
        TwinHalves x = new TwinHalves(16, 1);
        for (int turns = 0; turns < 3; turns++) {
            Check.memory(x, 4, turns);
            Check.memory(x, 3, turns % 2);
            Check.memory(x, 12, 0);
            Acts.turned(x, true);
            Acts.lies(x, 0, 0, 16);
        }
    }

    private static void turnChangesHalves() {
        Check.about(TURN, "the OLD half is the PRESENT one from then on; FLOOR and PASSED are 0, ROOF is SIZE");
        TwinHalves x = waiting(16, 1, 2, 1);
        Acts.done(x, "plain c 3");
        Acts.passed(x, 1000, 2);
        Acts.lies(x, 7, 7, 11);
        Acts.done(x, "set a 0; set c 0");
        Acts.turned(x, true);
        Acts.lies(x, 0, 0, 16);
        Check.memory(x, 3, 0);
        Check.memory(x, 12, 0);
    }

    private static void turnMovesRootsOnly() {
        Check.about(TURN, "each ROOT's THING, the ROOTS in their order, is MOVED, if it lies in the OLD half");
        TwinHalves x = new TwinHalves(40, 1);
        Acts.done(x, "plain h 1; push h; push h; row a 1; put a 0 h; plain h 2; push h; copy b h; plain h 3");
        Acts.done(x, "none d");
        Acts.turned(x, true);
        // a, b (and the STACK's uppermost), h, then the STACK's lowest two, which are one THING
        Acts.place(x, "a", 0);
        Acts.place(x, "b", 3);
        Acts.place(x, "h", 7);
        Check.due("stack(0, 2)", x.stack(0, 2), 12);
        Check.due("stack(1, 2)", x.stack(1, 2), 12);
        Check.due("stack(2, 2)", x.stack(2, 2), 3);
        Acts.lies(x, 15, 0, 40);
        Check.memory(x, 5, 4);
        Check.memory(x, 12, 4);
        Acts.has(x, "c", 0, 0);
        Acts.has(x, "d", 1, 0);
    }

    private static void turnHasAlwaysRoom() {
        Check.about(TURN, "There is always room for these");
        TwinHalves x = new TwinHalves(16, 6);
        Acts.done(x, "row a 5; plain b 7");
        for (int turns = 1; turns < 4; turns++) {
            Acts.turned(x, true);
            Acts.lies(x, 16, 0, 16);
            Check.memory(x, 12, 2);
            Acts.passed(x, 1000, 16);
        }
        Acts.failures(x, 0, 0, 0);
    }

    private static void notMovedIsGone() {
        Check.about(TURN, "What isn't MOVED until the next TURN is gone");
        TwinHalves x = waiting(16, 1, 1, 2);
        Acts.done(x, "put a 0 b");
        Acts.reached(x, 1, 3);
        Acts.passed(x, 3, 3);
        Acts.turned(x, true);
        Acts.lies(x, 3, 0, 16);
        // the words that the PLAIN one had can be taken, all of them
        Acts.done(x, "plain c 11");
        Acts.lies(x, 3, 3, 3);
        Acts.reached(x, 2, 16);
        Acts.failures(x, 0, 0, 0);
    }

    private static void makePassesKTimesItsWords() {
        Check.about(MAKE, "first words are PASSED, one by one, K w of them");
        for (int k = 1; k <= 6; k++) {
            TwinHalves x = waiting(120, k, 40, 0);
            Acts.done(x, "row b 0");
            Check.memory(x, 1, 2 * k);
            Acts.done(x, "plain c 1");
            Check.memory(x, 1, 5 * k);
            Check.memory(x, 6, 5 * k);
            Check.memory(x, 11, 3 * k);
            Check.memory(x, 5, 1);
        }
    }

    private static void makePassesTheMost() {
        Check.about(MAKE, "K w of them: 6 times 42 at most");
        TwinHalves x = new TwinHalves(1200, 6);
        for (String hand : "a b c d e f g".split(" ")) {
            Acts.done(x, "row " + hand + " 40");
        }
        Acts.turned(x, true);
        Acts.lies(x, 294, 0, 1200);
        Acts.done(x, "plain h 40");
        Acts.lies(x, 294, 252, 1158);
        Check.memory(x, 11, 252);
        Acts.done(x, "row h 40");
        Acts.lies(x, 294, 294, 1116);
        Check.memory(x, 11, 252);
        Check.memory(x, 6, 294);
    }

    private static void makePassesTillFloor() {
        Check.about(MAKE, "or till PASSED is FLOOR");
        TwinHalves x = new TwinHalves(60, 6);
        Acts.done(x, "row a 0");
        Check.memory(x, 6, 0);
        Acts.turned(x, true);
        Acts.done(x, "row b 0");
        Acts.lies(x, 2, 2, 58);
        Check.memory(x, 11, 2);
        // exactly as many words as are left
        TwinHalves y = waiting(60, 1, 2, 1);
        Acts.passed(y, 4, 4);
        Acts.done(y, "row b 1");
        Acts.lies(y, 7, 7, 57);
        Check.memory(y, 11, 3);
    }

    private static void makePassesWhatItMoved() {
        Check.about(MAKE, "till PASSED is FLOOR: also FLOOR as these words raise it");
        TwinHalves x = waiting(60, 5, 1, 8);
        Acts.done(x, "row b 0");
        Acts.lies(x, 13, 10, 58);
        Acts.done(x, "row b 0");
        Acts.lies(x, 13, 13, 56);
        Check.memory(x, 5, 2);
    }

    private static void makeWithExactRoom() {
        Check.about(MAKE, "if ROOF less FLOOR is below w: not if it is w");
        TwinHalves x = new TwinHalves(16, 1);
        Acts.done(x, "row a 5; row b 7");
        Acts.lies(x, 0, 0, 0);
        Check.memory(x, 4, 0);
        // FLOOR is 12: the 4 words above are just enough, though much is not PASSED yet
        TwinHalves y = new TwinHalves(16, 1);
        Acts.done(y, "row a 10");
        Acts.turned(y, true);
        Acts.done(y, "row b 2");
        Acts.lies(y, 12, 4, 12);
        Acts.failures(y, 0, 0, 0);
        Check.memory(y, 4, 1);
    }

    private static void makeIsLateByOneWord() {
        Check.about(MAKE, "if PASSED is below FLOOR, LATE");
        TwinHalves x = new TwinHalves(16, 1);
        Acts.done(x, "row a 10");
        Acts.turned(x, true);
        Acts.passed(x, 6, 6);
        // 5 words more are PASSED: 11, one below FLOOR; that stays
        Acts.refused(x, 9, "row b 3");
        Acts.lies(x, 12, 11, 16);
        Acts.failures(x, 0, 1, 0);
        Acts.has(x, "b", 0, 0);
        Check.memory(x, 3, 1);
        Check.memory(x, 4, 1);
        Check.memory(x, 6, 11);
        Check.memory(x, 7, 1);
        Check.memory(x, 11, 5);
    }

    private static void makeTurnsAtFloor() {
        Check.about(MAKE, "if ROOF less FLOOR is below w: else (PASSED is FLOOR) a TURN comes");
        TwinHalves x = new TwinHalves(16, 1);
        Acts.done(x, "row a 4; row c 4");
        Acts.turned(x, true);
        Acts.done(x, "set c 0");
        Acts.passed(x, 7, 7);
        // the 5 words that are PASSED are the last of 12
        Acts.done(x, "row b 3");
        Acts.lies(x, 6, 0, 11);
        Acts.failures(x, 0, 0, 0);
        Acts.place(x, "a", 0);
        Acts.place(x, "b", 11);
        Check.memory(x, 3, 0);
        Check.memory(x, 4, 2);
        Check.memory(x, 11, 5);
        Check.memory(x, 12, 1);
    }

    private static void makeWithExactRoomBehindTurn() {
        Check.about(MAKE, "a TURN comes, and if ROOF less FLOOR is below w still: not if it is w");
        TwinHalves x = new TwinHalves(16, 1);
        Acts.done(x, "row a 6; row b 0; set b 0");
        Acts.done(x, "plain c 6");
        Acts.lies(x, 8, 0, 8);
        Acts.has(x, "c", 3, 6);
        Acts.place(x, "c", 8);
        Check.memory(x, 4, 1);
        Acts.failures(x, 0, 0, 0);
    }

    private static void makeIsFullByOneWord() {
        Check.about(MAKE, "and if ROOF less FLOOR is below w still, FULL; all that was done ahead of that stays");
        TwinHalves x = new TwinHalves(16, 1);
        Acts.done(x, "row a 6; row b 0; set b 0");
        Acts.refused(x, 10, "plain c 7");
        Acts.lies(x, 8, 0, 16);
        Acts.has(x, "c", 0, 0);
        Acts.failures(x, 0, 0, 1);
        Check.memory(x, 3, 1);
        Check.memory(x, 4, 1);
        Check.memory(x, 7, 2);
        Check.memory(x, 12, 1);
        // more than a whole half is never there
        TwinHalves y = new TwinHalves(16, 1);
        Acts.refused(y, 10, "row a 15");
        Acts.refused(y, 10, "row a 40");
        Acts.done(y, "row a 14");
        Check.memory(y, 4, 2);
        Acts.failures(y, 0, 0, 2);
    }

    private static void makeIsSpent() {
        Check.about(MAKE, "SPENT ends the making; all that was done ahead of that stays");
        // SLOT 0 has a PLAIN one of 2 words, for which there is room, SLOT 1 one of 9, for which there is none
        TwinHalves x = new TwinHalves(16, 1);
        Acts.done(x, "plain b 7; plain c 0; row a 2; put a 0 c; put a 1 b; set b 0; set c 0");
        Acts.turned(x, true);
        Acts.done(x, "plain d 0; set d 5");
        Acts.lies(x, 4, 2, 14);
        Acts.refused(x, 8, "row d 1");
        Acts.lies(x, 6, 3, 14);
        Acts.has(x, "d", 0, 5);
        Acts.failures(x, 1, 0, 0);
        Acts.slot(x, "a", 0, 3, 0, 1);
        Acts.slot(x, "a", 1, 3, 7, 0);
        Check.memory(x, 4, 1);
        Check.memory(x, 5, 2);
        Check.memory(x, 6, 3);
        Check.memory(x, 7, 4);
        Check.memory(x, 11, 2);
    }

    private static void makeIsNotSpentBehindItsWords() {
        Check.about(MAKE, "K w of them: a word behind these, that would be SPENT, is not looked at");
        TwinHalves x = waiting(20, 1, 6, 8);
        Acts.done(x, "plain c 0; plain d 0");
        Acts.lies(x, 8, 4, 16);
        Acts.passed(x, 1, 1);
        Acts.done(x, "plain e 0");
        Acts.lies(x, 8, 7, 14);
        Acts.failures(x, 0, 0, 0);
        Acts.refused(x, 8, "plain f 0");
        Acts.lies(x, 8, 7, 14);
    }

    private static void makeKeepsItsOldHandAsRoot() {
        Check.about(MAKE, "a TURN comes: R has what it had till the THING is MADE");
        TwinHalves x = new TwinHalves(16, 1);
        Acts.done(x, "row a 6");
        Acts.refused(x, 10, "row a 7");
        Acts.has(x, "a", 2, 6);
        Check.memory(x, 12, 1);
        Acts.passed(x, 8, 8);
        Acts.done(x, "row a 6");
        Acts.lies(x, 8, 8, 8);
        Acts.done(x, "row a 6");
        Check.memory(x, 12, 1);
        Acts.lies(x, 8, 0, 8);
    }

    private static void madeLiesAtRoof() {
        Check.about(MAKE, "Then ROOF is w less, and the new THING lies at ROOF");
        TwinHalves x = new TwinHalves(60, 1);
        int roof = 60;
        for (int n : new int[] {0, 40, 3, 1}) {
            roof -= n + 2;
            Acts.done(x, "plain a " + n);
            Acts.place(x, "a", roof);
            Acts.lies(x, 0, 0, roof);
        }
        Check.memory(x, 7, 4);
    }

    private static void madeIsNotPassed() {
        Check.about("Terms 2", "the words from ROOF on those of THINGS that were MADE there");
        TwinHalves x = new TwinHalves(16, 1);
        Acts.done(x, "row a 6; row b 6; put a 0 b");
        Acts.lies(x, 0, 0, 0);
        Acts.passed(x, 1000, 0);
        TwinHalves y = waiting(20, 1, 1, 3);
        Acts.done(y, "row c 3");
        Acts.passed(y, 1000, 3);
        Acts.lies(y, 8, 8, 15);
        Check.memory(y, 5, 2);
    }

    private static void readWithoutMove() {
        Check.about(READ, "if it has a THING of the OLD half: else nothing is MOVED");
        TwinHalves x = new TwinHalves(40, 1);
        Acts.done(x, "row a 3; put a 0 d; put a 2 a");
        Acts.turned(x, true);
        Acts.done(x, "get b a 0; get c a 1; get d a 2");
        Acts.has(x, "b", 0, 0);
        Acts.has(x, "c", 1, 0);
        Acts.has(x, "d", 2, 3);
        Acts.place(x, "d", 0);
        Acts.lies(x, 5, 0, 40);
        Check.memory(x, 5, 1);
    }

    private static void readMoves() {
        Check.about(READ, "if it has a THING of the OLD half, this is MOVED, up to ROOF");
        TwinHalves x = waiting(16, 1, 2, 8);
        Acts.done(x, "row c 0; get d a 1");
        Acts.has(x, "d", 3, 8);
        Acts.place(x, "d", 4);
        // nothing is PASSED by that
        Acts.lies(x, 14, 2, 14);
        Acts.done(x, "get e a 1; same f d e");
        Acts.has(x, "f", 0, 1);
        Acts.lies(x, 14, 2, 14);
        Check.memory(x, 5, 2);
    }

    private static void readIsSpent() {
        Check.about(READ, "SPENT: nothing is read");
        TwinHalves x = waiting(16, 1, 2, 9);
        Acts.done(x, "row c 0; set d 1");
        Acts.refused(x, 8, "get a a 1");
        Acts.refused(x, 8, "gets d a d");
        Acts.has(x, "a", 2, 2);
        Acts.has(x, "d", 0, 1);
        Acts.lies(x, 4, 2, 14);
        Acts.slot(x, "a", 1, 3, 9, 0);
        Check.memory(x, 5, 1);
        Acts.failures(x, 2, 0, 0);
    }
}
