/** Promise 10: act, each of ACTS 0 to 19 with its refusals. */
public final class ActTest {
    private static final int A = 0;
    private static final int B = 1;
    private static final int C = 2;
    private static final int D = 3;

    public static void main(String[] args) {
        wrongCalls();
        words();
        making();
        slots();
        leastKinds();
        sizeAndKind();
        reckoning();
        sameness();
        stack();
        readMovesAndMayBeSpent();
        Check.end();
    }

    private static void wrongCalls() {
        TwinHalves x = new TwinHalves(16, 1);
        for (int op : new int[] {-1, 20, 21, 22, 23, 24, 25, 26, Integer.MIN_VALUE, Integer.MAX_VALUE}) {
            Check.act(x, -1, op, 0, 0, 0);
        }
        String[] takes = {"RN", "RS", "R", "RN", "RN", "RS", "RS", "RSN", "RST", "RNS", "RST", "RS", "RS",
            "RST", "RST", "RST", "RST", "RST", "R", "R"};
        for (int op = 0; op < 20; op++) {
            for (int i = 0; i < 3; i++) {
                boolean isHand = i < takes[op].length() && takes[op].charAt(i) != 'N';
                for (int wrong : new int[] {-1, 8, Integer.MIN_VALUE, Integer.MAX_VALUE}) {
                    int got = new TwinHalves(16, 1).act(op, i == 0 ? wrong : 0, i == 1 ? wrong : 0, i == 2 ? wrong : 0);
                    String call = "act(" + op + ") with " + wrong + " as taken " + i + " is NONE";
                    Check.due(call, got == -1 ? 1 : 0, isHand ? 1 : 0);
                }
            }
        }
        // a HAND that is none comes ahead of any refusal, and nothing is done
        Check.act(x, -1, 13, 8, A, B);
        Check.act(x, -1, 9, A, 0, 8);
        Check.act(x, -1, 3, 8, 2, 0);
        Check.memory(x, 7, 0);
        Check.act(x, 0, 0, 7, 5, -9);
        Check.due("hand(7, 1)", x.hand(7, 1), 5);
    }

    private static void words() {
        TwinHalves x = new TwinHalves(40, 1);
        Check.act(x, 0, 0, A, Integer.MIN_VALUE, 99);
        Check.act(x, 0, 1, B, A, 99);
        Check.due("hand(1, 1)", x.hand(1, 1), Integer.MIN_VALUE);
        Check.act(x, 0, 2, B, 99, 99);
        Check.due("hand(1, 0)", x.hand(1, 0), 1);
        Check.act(x, 0, 1, A, B, 0);
        Check.due("hand(0, 0)", x.hand(0, 0), 1);
        Check.act(x, 0, 4, C, 2, 0);
        Check.act(x, 0, 1, A, C, 0);
        Check.due("hand(0, 2)", x.hand(0, 2), 36);
    }

    private static void making() {
        TwinHalves x = new TwinHalves(200, 1);
        Check.act(x, 0, 3, A, 40, 0);
        Check.due("hand(0, 2)", x.hand(0, 2), 158);
        Check.due("slot(0, 39, 0)", x.slot(0, 39, 0), 1);
        Check.due("slot(0, 40, 0)", x.slot(0, 40, 0), -1);
        Check.act(x, 0, 4, B, 40, 0);
        Check.due("hand(1, 0)", x.hand(1, 0), 3);
        Check.due("slot(1, 39, 0)", x.slot(1, 39, 0), 0);
        Check.due("slot(1, 39, 1)", x.slot(1, 39, 1), 0);
        Check.act(x, 0, 3, C, 0, 0);
        Check.due("hand(2, 2)", x.hand(2, 2), 114);
        Check.due("slot(2, 0, 0)", x.slot(2, 0, 0), -1);
        Check.act(x, 4, 3, A, 41, 0);
        Check.act(x, 4, 4, A, -1, 0);
        Check.act(x, 0, 0, D, 3, 0);
        Check.act(x, 0, 5, A, D, 0);
        Check.due("hand(0, 0)", x.hand(0, 0), 2);
        Check.due("hand(0, 1)", x.hand(0, 1), 3);
        Check.act(x, 0, 6, D, D, 0);
        Check.due("hand(3, 0)", x.hand(3, 0), 3);
        Check.act(x, 1, 5, A, D, 0);
        Check.act(x, 1, 6, A, D, 0);
        Check.act(x, 0, 0, D, 41, 0);
        Check.act(x, 4, 5, A, D, 0);
        Check.act(x, 0, 0, D, Integer.MIN_VALUE, 0);
        Check.act(x, 4, 6, A, D, 0);
        Check.memory(x, 7, 5);
    }

    private static void slots() {
        TwinHalves x = new TwinHalves(60, 1);
        Check.act(x, 0, 3, A, 3, 0);
        Check.act(x, 0, 4, B, 2, 0);
        Check.act(x, 0, 0, C, 77, 0);
        Check.act(x, 0, 9, A, 0, C);
        Check.act(x, 0, 9, A, 2, B);
        Check.act(x, 0, 9, B, 1, C);
        Check.act(x, 5, 9, B, 0, A);
        Check.act(x, 0, 7, D, A, 0);
        Check.due("hand(3, 1)", x.hand(3, 1), 77);
        Check.act(x, 0, 7, D, A, 1);
        Check.due("hand(3, 0)", x.hand(3, 0), 1);
        Check.act(x, 5, 9, B, 0, D);
        Check.act(x, 0, 0, C, 2, 0);
        Check.act(x, 0, 8, D, A, C);
        Check.due("hand(3, 2)", x.hand(3, 2), x.hand(1, 2));
        Check.act(x, 0, 0, C, 1, 0);
        Check.act(x, 0, 10, A, C, A);
        Check.due("slot(0, 1, 0)", x.slot(0, 1, 0), 2);
        Check.act(x, 0, 10, B, C, C);
        Check.due("slot(1, 1, 1)", x.slot(1, 1, 1), 1);
        Check.act(x, 0, 7, A, A, 2);
        Check.due("hand(0, 0)", x.hand(0, 0), 3);
        for (int wrong : new int[] {-1, 2, Integer.MIN_VALUE, Integer.MAX_VALUE}) {
            Check.act(x, 3, 7, D, B, wrong);
            Check.act(x, 3, 9, B, wrong, C);
            Check.act(x, 0, 0, C, wrong, 0);
            Check.act(x, 3, 8, D, B, C);
            Check.act(x, 3, 10, B, C, C);
        }
    }

    private static void leastKinds() {
        TwinHalves x = new TwinHalves(60, 1);
        Check.act(x, 0, 2, A, 0, 0);
        Check.act(x, 1, 8, C, B, A);
        Check.act(x, 2, 8, C, A, B);
        Check.act(x, 2, 7, C, B, -1);
        Check.act(x, 2, 9, B, -1, A);
        Check.act(x, 1, 10, B, A, A);
        Check.act(x, 2, 10, B, C, A);
        Check.act(x, 0, 4, B, 1, 0);
        Check.act(x, 3, 9, B, 1, A);
        Check.act(x, 5, 9, B, 0, A);
        Check.act(x, 1, 10, B, A, A);
        Check.act(x, 5, 10, B, C, A);
        Check.act(x, 0, 0, C, 1, 0);
        Check.act(x, 3, 10, B, C, A);
        Check.due("hand(2, 1)", x.hand(2, 1), 1);
        Check.due("slot(1, 0, 1)", x.slot(1, 0, 1), 0);
    }

    private static void sizeAndKind() {
        TwinHalves x = new TwinHalves(60, 1);
        Check.act(x, 0, 3, A, 7, 0);
        Check.act(x, 0, 4, B, 0, 0);
        Check.act(x, 0, 2, C, 0, 0);
        int[] kinds = {2, 3, 1, 0};
        for (int r = 0; r < 4; r++) {
            Check.act(x, 0, 12, 7, r, 0);
            Check.due("kind of " + r, x.hand(7, 1), kinds[r]);
            Check.act(x, r < 2 ? 0 : 2, 11, 6, r, 0);
        }
        Check.act(x, 0, 11, 5, A, 0);
        Check.due("size", x.hand(5, 1), 7);
        Check.due("size", x.hand(6, 1), 0);
        Check.act(x, 0, 11, A, A, 0);
        Check.due("size into itself", x.hand(0, 1), 7);
    }

    private static void reckoning() {
        int[][] rows = {{7, 3, 10, 4, 21, 0}, {3, 7, 10, -4, 21, 1}, {-2, -2, -4, 0, 4, 0},
            {Integer.MAX_VALUE, 1, Integer.MIN_VALUE, Integer.MAX_VALUE - 1, Integer.MAX_VALUE, 0},
            {Integer.MIN_VALUE, 1, Integer.MIN_VALUE + 1, Integer.MAX_VALUE, Integer.MIN_VALUE, 1},
            {65537, 65537, 131074, 0, 131073, 0}};
        TwinHalves x = new TwinHalves(16, 1);
        for (int[] row : rows) {
            Check.act(x, 0, 0, A, row[0], 0);
            Check.act(x, 0, 0, B, row[1], 0);
            for (int op = 13; op <= 16; op++) {
                Check.act(x, 0, op, C, A, B);
                Check.due("act " + op + " of " + row[0] + ", " + row[1], x.hand(C, 1), row[op - 11]);
            }
        }
        Check.act(x, 0, 2, D, 0, 0);
        for (int op = 13; op <= 16; op++) {
            Check.act(x, 1, op, C, A, D);
            Check.act(x, 1, op, C, D, A);
        }
        Check.due("hand(2, 1)", x.hand(2, 1), 0);
    }

    private static void sameness() {
        TwinHalves x = new TwinHalves(60, 1);
        Check.act(x, 0, 3, 0, 1, 0);
        Check.act(x, 0, 3, 1, 1, 0);
        Check.act(x, 0, 1, 2, 0, 0);
        Check.act(x, 0, 2, 3, 0, 0);
        Check.act(x, 0, 2, 4, 0, 0);
        Check.act(x, 0, 0, 5, 0, 0);
        Check.act(x, 0, 0, 6, 1000, 0);
        int[] groups = {0, 1, 0, 3, 3, 5, 6};
        for (int s = 0; s < 7; s++) {
            for (int t = 0; t < 7; t++) {
                Check.act(x, 0, 17, 7, s, t);
                Check.due("same " + s + " " + t, x.hand(7, 1), groups[s] == groups[t] ? 1 : 0);
            }
        }
        // also the same THING when one way to it has not been followed since the TURN
        Check.act(x, 0, 9, 0, 0, 1);
        Check.act(x, 0, 2, 2, 0, 0);
        Check.due("turn()", x.turn() ? 1 : 0, 1);
        Check.act(x, 0, 7, 2, 0, 0);
        Check.act(x, 0, 17, 7, 1, 2);
        Check.due("same", x.hand(7, 1), 1);
    }

    private static void stack() {
        TwinHalves x = new TwinHalves(60, 1);
        Check.act(x, 6, 19, A, 0, 0);
        for (int i = 0; i < 50; i++) {
            Check.act(x, 0, 0, A, i, 0);
            Check.act(x, 0, 18, A, 0, 0);
        }
        Check.act(x, 6, 18, A, 0, 0);
        Check.due("stack(49, 1)", x.stack(49, 1), 49);
        Check.due("stack(50, 1)", x.stack(50, 1), -1);
        for (int i = 49; i >= 0; i--) {
            Check.act(x, 0, 19, B, 0, 0);
            Check.due("popped", x.hand(B, 1), i);
        }
        Check.act(x, 6, 19, B, 0, 0);
        Check.due("hand(1, 1)", x.hand(1, 1), 0);
    }

    private static void readMovesAndMayBeSpent() {
        TwinHalves x = new TwinHalves(16, 1);
        Check.act(x, 0, 3, A, 1, 0);
        Check.act(x, 0, 4, B, 8, 0);
        Check.act(x, 0, 9, A, 0, B);
        Check.act(x, 0, 2, B, 0, 0);
        Check.due("turn()", x.turn() ? 1 : 0, 1);
        // making 2 words PASSES the 2 HEAD words alone, so that SLOT 0 is still to be PASSED
        Check.act(x, 0, 3, C, 0, 0);
        Check.act(x, 0, 0, D, 5, 0);
        Check.memory(x, 1, 2);
        Check.memory(x, 2, 14);
        Check.act(x, 0, 7, D, A, 0);
        Check.due("hand(3, 2)", x.hand(3, 2), 3);
        Check.memory(x, 0, 13);
        Check.memory(x, 1, 2);

        TwinHalves y = new TwinHalves(16, 1);
        Check.act(y, 0, 3, A, 2, 0);
        Check.act(y, 0, 4, B, 8, 0);
        Check.act(y, 0, 9, A, 0, B);
        Check.act(y, 0, 2, B, 0, 0);
        Check.due("turn()", y.turn() ? 1 : 0, 1);
        Check.act(y, 0, 3, C, 0, 0);
        Check.act(y, 0, 2, C, 0, 0);
        // FLOOR is 4, ROOF 14: just room for the 10 words
        Check.act(y, 0, 7, D, A, 0);
        Check.memory(y, 0, 14);
        spentRead();
    }

    private static void spentRead() {
        TwinHalves x = new TwinHalves(17, 1);
        Check.act(x, 0, 3, A, 3, 0);
        Check.act(x, 0, 4, B, 7, 0);
        Check.act(x, 0, 9, A, 2, B);
        Check.act(x, 0, 2, B, 0, 0);
        Check.due("turn()", x.turn() ? 1 : 0, 1);
        Check.act(x, 0, 3, C, 0, 0);
        Check.act(x, 0, 3, C, 0, 0);
        Check.memory(x, 1, 4);
        Check.memory(x, 2, 13);
        Check.act(x, 0, 0, D, 5, 0);
        Check.act(x, 8, 7, D, A, 2);
        Check.act(x, 0, 0, B, 2, 0);
        Check.act(x, 8, 8, D, A, B);
        Check.due("hand(3, 1): nothing is read", x.hand(3, 1), 5);
        Check.due("slot(0, 2, 2)", x.slot(0, 2, 2), 0);
        Check.memory(x, 8, 2);
        Check.memory(x, 0, 5);
        Check.memory(x, 5, 1);
    }
}
