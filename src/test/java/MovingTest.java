/** Promises 11 to 13 and 17: pass, turn, memory, reach, and how THINGS are MADE and MOVED. */
public final class MovingTest {
    public static void main(String[] args) {
        wrongCalls();
        turnAndPass();
        turnMovesRootsInOrder();
        passIsSpent();
        makingPasses();
        makingIsLate();
        makingIsSpent();
        makingTurnsAndIsFull();
        sharedThingsMoveOnce();
        goneThings();
        Check.end();
    }

    private static void memory(TwinHalves x, int... want) {
        for (int what = 0; what < want.length; what++) {
            Check.memory(x, what, want[what]);
        }
    }

    private static void turned(TwinHalves x, boolean want) {
        Check.due("turn()", x.turn() ? 1 : 0, want ? 1 : 0);
    }

    private static void passed(TwinHalves x, int n, int want) {
        Check.due("pass(" + n + ")", x.pass(n), want);
    }

    private static void reached(TwinHalves x, int things, int words) {
        Check.due("reach(0)", x.reach(0), things);
        Check.due("reach(1)", x.reach(1), words);
    }

    private static void wrongCalls() {
        TwinHalves x = new TwinHalves(40, 2);
        for (int wrong : new int[] {-1, 1001, Integer.MIN_VALUE, Integer.MAX_VALUE}) {
            passed(x, wrong, -1);
        }
        for (int wrong : new int[] {-1, 15, Integer.MIN_VALUE, Integer.MAX_VALUE}) {
            Check.memory(x, wrong, -1);
        }
        for (int wrong : new int[] {-1, 2, Integer.MIN_VALUE, Integer.MAX_VALUE}) {
            Check.due("reach(" + wrong + ")", x.reach(wrong), -1);
        }
        passed(x, 0, 0);
        passed(x, 1000, 0);
        turned(x, true);
        turned(x, true);
        memory(x, 0, 0, 40, 0, 2, 0, 0, 0, 0, 0, 0, 0, 0, 40, 2);
    }

    /** Hand 0 has a ROW of 2 with a chain behind it: a -> ROW 1 -> PLAIN 3. */
    private static TwinHalves chain(int size, int k) {
        TwinHalves x = new TwinHalves(size, k);
        Check.act(x, 0, 4, 1, 3, 0);
        Check.act(x, 0, 3, 2, 1, 0);
        Check.act(x, 0, 9, 2, 0, 1);
        Check.act(x, 0, 3, 0, 2, 0);
        Check.act(x, 0, 9, 0, 1, 2);
        Check.act(x, 0, 2, 1, 0, 0);
        Check.act(x, 0, 2, 2, 0, 0);
        return x;
    }

    private static void turnAndPass() {
        TwinHalves x = chain(40, 2);
        reached(x, 3, 12);
        turned(x, true);
        memory(x, 4, 0, 40, 1, 1, 1, 0, 3, 0, 0, 0, 0, 1);
        turned(x, false);
        reached(x, 3, 12);
        passed(x, 0, 0);
        passed(x, 3, 3);
        memory(x, 4, 3, 40, 1, 1, 1, 3);
        passed(x, 1, 1);
        memory(x, 7, 4, 40, 1, 1, 2, 4);
        turned(x, false);
        passed(x, 1000, 8);
        memory(x, 12, 12, 40, 1, 1, 3, 12, 3, 0, 0, 0, 0, 1);
        passed(x, 1000, 0);
        reached(x, 3, 12);
        turned(x, true);
        memory(x, 4, 0, 40, 0, 2, 4, 12, 3, 0, 0, 0, 0, 1);
        Check.shown(x, 0, "#1 [. #2] [#3] {0 0 0}");
    }

    private static void turnMovesRootsInOrder() {
        TwinHalves x = new TwinHalves(100, 1);
        Check.act(x, 0, 3, 7, 1, 0);
        Check.act(x, 0, 18, 7, 0, 0);
        Check.act(x, 0, 4, 7, 2, 0);
        Check.act(x, 0, 18, 7, 0, 0);
        Check.act(x, 0, 3, 7, 3, 0);
        Check.act(x, 0, 4, 2, 4, 0);
        Check.act(x, 0, 1, 5, 7, 0);
        turned(x, true);
        Check.due("hand(2, 2)", x.hand(2, 2), 0);
        Check.due("hand(5, 2)", x.hand(5, 2), 6);
        Check.due("hand(7, 2)", x.hand(7, 2), 6);
        Check.due("stack(0, 2)", x.stack(0, 2), 11);
        Check.due("stack(1, 2)", x.stack(1, 2), 14);
        memory(x, 18, 0, 100, 1, 1, 4, 0, 4, 0, 0, 0, 0, 4);
    }

    private static void passIsSpent() {
        // HAND 0 keeps 4 words and, behind its last SLOT, 10 words: too many once 3 are MADE
        TwinHalves x = new TwinHalves(16, 1);
        Check.act(x, 0, 3, 0, 2, 0);
        Check.act(x, 0, 4, 1, 8, 0);
        Check.act(x, 0, 9, 0, 1, 1);
        Check.act(x, 0, 2, 1, 0, 0);
        turned(x, true);
        Check.act(x, 0, 3, 1, 1, 0);
        memory(x, 4, 3, 13, 1, 1, 1, 3, 3, 0, 0, 0, 3, 1);
        Check.act(x, 8, 3, 2, 0, 0);
        memory(x, 4, 3, 13, 1, 1, 1, 3, 3, 1, 0, 0, 3, 1);
        Check.act(x, 0, 2, 1, 0, 0);
        passed(x, 0, 0);
        Check.memory(x, 8, 1);
        passed(x, 5, 0);
        memory(x, 4, 3, 13, 1, 1, 1, 3, 3, 2, 0, 0, 3, 1);
        turned(x, false);
        // once the SLOT has a NUMBER, its word can be PASSED
        Check.act(x, 0, 9, 0, 1, 3);
        passed(x, 5, 1);
        turned(x, true);
    }

    private static void makingPasses() {
        TwinHalves x = chain(60, 2);
        turned(x, true);
        Check.act(x, 0, 4, 3, 0, 0);
        memory(x, 7, 4, 58, 1, 1, 2, 4, 4, 0, 0, 0, 4, 1);
        Check.due("hand(3, 2)", x.hand(3, 2), 58);
        Check.act(x, 0, 4, 3, 2, 0);
        memory(x, 12, 12, 54, 1, 1, 3, 12, 5, 0, 0, 0, 8, 1);
        Check.act(x, 0, 4, 3, 40, 0);
        memory(x, 12, 12, 12, 1, 1, 3, 12, 6, 0, 0, 0, 8, 1);
    }

    private static void makingIsLate() {
        TwinHalves x = chain(20, 1);
        turned(x, true);
        Check.act(x, 0, 4, 3, 3, 0);
        memory(x, 7, 5, 15, 1, 1, 2, 5, 4, 0, 0, 0, 5, 1);
        Check.act(x, 0, 4, 4, 0, 0);
        memory(x, 12, 7, 13, 1, 1, 3, 7, 5, 0, 0, 0, 5, 1);
        Check.act(x, 9, 4, 5, 0, 0);
        memory(x, 12, 9, 13, 1, 1, 3, 9, 5, 0, 1, 0, 5, 1);
        Check.due("hand(5, 0)", x.hand(5, 0), 0);
        Check.act(x, 9, 4, 5, 0, 0);
        memory(x, 12, 11, 13, 1, 1, 3, 11, 5, 0, 2, 0, 5, 1);
        // now the last word can be PASSED, and the TURN comes
        Check.act(x, 0, 4, 5, 0, 0);
        memory(x, 11, 0, 18, 0, 2, 6, 12, 6, 0, 2, 0, 5, 3);
        Check.due("hand(5, 2)", x.hand(5, 2), 18);

        TwinHalves most = chain(16, 1);
        turned(most, true);
        Check.act(most, 9, 4, 3, 6, 0);
        memory(most, 12, 8, 16, 1, 1, 3, 8, 3, 0, 1, 0, 8, 1);
    }

    private static void makingIsSpent() {
        TwinHalves x = chain(16, 1);
        turned(x, true);
        Check.act(x, 0, 4, 3, 2, 0);
        memory(x, 7, 4, 12, 1, 1, 2, 4, 4, 0, 0, 0, 4, 1);
        Check.act(x, 0, 4, 4, 0, 0);
        memory(x, 7, 6, 10, 1, 1, 2, 6, 5, 0, 0, 0, 4, 1);
        Check.act(x, 8, 4, 5, 0, 0);
        memory(x, 7, 6, 10, 1, 1, 2, 6, 5, 1, 0, 0, 4, 1);
        Check.act(x, 8, 3, 5, 40, 0);
        memory(x, 7, 6, 10, 1, 1, 2, 6, 5, 2, 0, 0, 4, 1);
        Check.due("hand(5, 0)", x.hand(5, 0), 0);
        reached(x, 5, 18);
    }

    private static void makingTurnsAndIsFull() {
        TwinHalves x = new TwinHalves(16, 1);
        Check.act(x, 0, 3, 0, 6, 0);
        Check.act(x, 0, 3, 1, 4, 0);
        Check.act(x, 0, 2, 1, 0, 0);
        // the TURN leaves 8 words of 16: the 6 that no ROOT has are gone
        Check.act(x, 0, 3, 1, 6, 0);
        memory(x, 8, 0, 8, 1, 1, 1, 0, 3, 0, 0, 0, 0, 1);
        Check.due("hand(1, 2)", x.hand(1, 2), 8);

        TwinHalves y = new TwinHalves(16, 1);
        Check.act(y, 0, 3, 0, 10, 0);
        Check.act(y, 10, 3, 1, 3, 0);
        memory(y, 12, 0, 16, 1, 1, 1, 0, 1, 0, 0, 1, 0, 1);
        Check.due("hand(1, 0)", y.hand(1, 0), 0);
        Check.act(y, 9, 3, 1, 3, 0);
        Check.act(y, 9, 3, 1, 3, 0);
        memory(y, 12, 10, 16, 1, 1, 1, 10, 1, 0, 2, 1, 5, 1);
        Check.act(y, 10, 3, 1, 3, 0);
        memory(y, 12, 0, 16, 0, 2, 2, 12, 1, 0, 2, 2, 5, 1);
        Check.act(y, 0, 3, 1, 2, 0);
        memory(y, 12, 4, 12, 0, 2, 2, 16, 2, 0, 2, 2, 5, 1);
    }

    private static void sharedThingsMoveOnce() {
        TwinHalves x = new TwinHalves(60, 1);
        Check.act(x, 0, 4, 1, 2, 0);
        Check.act(x, 0, 3, 0, 3, 0);
        Check.act(x, 0, 9, 0, 0, 1);
        Check.act(x, 0, 9, 0, 2, 1);
        Check.act(x, 0, 9, 0, 1, 0);
        Check.act(x, 0, 2, 1, 0, 0);
        reached(x, 2, 9);
        turned(x, true);
        Check.due("slot(0, 0, 2)", x.slot(0, 0, 2), 0);
        Check.due("slot(0, 1, 2)", x.slot(0, 1, 2), 1);
        Check.due("slot(0, 2, 2)", x.slot(0, 2, 2), 0);
        passed(x, 3, 3);
        // the THING itself is meant: SLOT 2, not PASSED yet, has it where it lies now
        Check.due("slot(0, 0, 2)", x.slot(0, 0, 2), 1);
        Check.due("slot(0, 2, 2)", x.slot(0, 2, 2), 1);
        passed(x, 1000, 6);
        memory(x, 9, 9, 60, 1, 1, 2, 9);
        Check.shown(x, 0, "#1 [#2 #1 #2] {0 0}");
    }

    private static void goneThings() {
        TwinHalves x = chain(40, 1);
        Check.act(x, 0, 7, 1, 0, 1);
        Check.act(x, 0, 9, 0, 1, 3);
        reached(x, 3, 12);
        Check.act(x, 0, 2, 1, 0, 0);
        reached(x, 1, 4);
        turned(x, true);
        passed(x, 1000, 4);
        memory(x, 4, 4, 40, 1, 1, 1);
        // what was popped is no ROOT any more
        Check.act(x, 0, 18, 0, 0, 0);
        Check.act(x, 0, 19, 0, 0, 0);
        Check.act(x, 0, 2, 0, 0, 0);
        reached(x, 0, 0);
        turned(x, true);
        memory(x, 0, 0, 40, 0, 2, 1, 4, 3, 0, 0, 0, 0, 0);
    }
}
