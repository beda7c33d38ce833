/** Promises 14 to 16, 18 and 19: hand, stack, slot, show, letter. */
public final class LookTest {
    private static final int[] WRONG = {-1, 3, Integer.MIN_VALUE, Integer.MAX_VALUE};

    public static void main(String[] args) {
        hands();
        stack();
        slots();
        shownWords();
        shownThings();
        longText();
        textStays();
        Check.end();
    }

    private static void hand(TwinHalves x, int r, int kind, int detail, int place) {
        Check.due("hand(" + r + ", 0)", x.hand(r, 0), kind);
        Check.due("hand(" + r + ", 1)", x.hand(r, 1), detail);
        Check.due("hand(" + r + ", 2)", x.hand(r, 2), place);
    }

    private static TwinHalves filled() {
        TwinHalves x = new TwinHalves(50, 1);
        Check.act(x, 0, 0, 0, -12, 0);
        Check.act(x, 0, 2, 1, 0, 0);
        Check.act(x, 0, 3, 2, 4, 0);
        Check.act(x, 0, 4, 7, 3, 0);
        return x;
    }

    private static void hands() {
        TwinHalves x = filled();
        hand(x, 0, 0, -12, -1);
        hand(x, 1, 1, 0, -1);
        hand(x, 2, 2, 4, 44);
        hand(x, 7, 3, 3, 39);
        for (int wrong : WRONG) {
            Check.due("hand(2, " + wrong + ")", x.hand(2, wrong), -1);
        }
        for (int what = 0; what < 3; what++) {
            Check.due("hand(-1, " + what + ")", x.hand(-1, what), -1);
            Check.due("hand(8, " + what + ")", x.hand(8, what), -1);
            Check.due("hand(MAX, " + what + ")", x.hand(Integer.MAX_VALUE, what), -1);
        }
    }

    private static void stack() {
        TwinHalves x = filled();
        Check.due("stack(0, 0)", x.stack(0, 0), -1);
        int[] order = {7, 0, 1, 2};
        for (int r : order) {
            Check.act(x, 0, 18, r, 0, 0);
        }
        for (int k = 0; k < 4; k++) {
            for (int what = 0; what < 3; what++) {
                Check.due("stack(" + k + ", " + what + ")", x.stack(k, what), x.hand(order[k], what));
            }
            for (int wrong : WRONG) {
                Check.due("stack(" + k + ", " + wrong + ")", x.stack(k, wrong), -1);
            }
        }
        for (int wrong : new int[] {-1, 4, 50, Integer.MIN_VALUE, Integer.MAX_VALUE}) {
            Check.due("stack(" + wrong + ", 0)", x.stack(wrong, 0), -1);
        }
        Check.act(x, 0, 19, 3, 0, 0);
        Check.due("stack(3, 0)", x.stack(3, 0), -1);
        hand(x, 3, 2, 4, 44);
    }

    private static void slot(TwinHalves x, int i, int kind, int detail, int half) {
        Check.due("slot(2, " + i + ", 0)", x.slot(2, i, 0), kind);
        Check.due("slot(2, " + i + ", 1)", x.slot(2, i, 1), detail);
        Check.due("slot(2, " + i + ", 2)", x.slot(2, i, 2), half);
    }

    private static void slots() {
        TwinHalves x = filled();
        Check.act(x, 0, 9, 2, 0, 0);
        Check.act(x, 0, 9, 2, 2, 2);
        Check.act(x, 0, 9, 2, 3, 7);
        slot(x, 0, 0, -12, -1);
        slot(x, 1, 1, 0, -1);
        slot(x, 2, 2, 4, 0);
        slot(x, 3, 3, 3, 0);
        for (int wrong : new int[] {-1, 4, Integer.MIN_VALUE, Integer.MAX_VALUE}) {
            slot(x, wrong, -1, -1, -1);
        }
        for (int wrong : WRONG) {
            Check.due("slot(2, 3, " + wrong + ")", x.slot(2, 3, wrong), -1);
        }
        for (int r : new int[] {-1, 0, 1, 8, Integer.MAX_VALUE}) {
            Check.due("slot(" + r + ", 0, 0)", x.slot(r, 0, 0), -1);
        }
        Check.due("slot(7, 0, 0)", x.slot(7, 0, 0), 0);
        Check.due("slot(7, 0, 2)", x.slot(7, 0, 2), -1);
        Check.act(x, 0, 2, 7, 0, 0);
        Check.due("turn()", x.turn() ? 1 : 0, 1);
        slot(x, 2, 2, 4, 1);
        slot(x, 3, 3, 3, 0);
        Check.memory(x, 5, 1);
        Check.memory(x, 0, 6);
    }

    private static void shownWords() {
        TwinHalves x = new TwinHalves(50, 1);
        for (int number : new int[] {0, 9, 10, -1, 100, 1000000000, Integer.MAX_VALUE, Integer.MIN_VALUE, -10, 907}) {
            Check.act(x, 0, 0, 3, number, 0);
            Check.shown(x, 3, Integer.toString(number));
        }
        Check.act(x, 0, 2, 3, 0, 0);
        Check.shown(x, 3, ".");
        Check.act(x, 0, 3, 3, 0, 0);
        Check.shown(x, 3, "#1 []");
        Check.act(x, 0, 4, 3, 0, 0);
        Check.shown(x, 3, "#1 {}");
    }

    private static void shownThings() {
        TwinHalves x = filled();
        Check.act(x, 0, 3, 3, 3, 0);
        Check.act(x, 0, 9, 7, 1, 0);
        Check.act(x, 0, 9, 3, 0, 2);
        Check.act(x, 0, 9, 3, 1, 7);
        Check.act(x, 0, 9, 3, 2, 2);
        Check.act(x, 0, 9, 2, 1, 3);
        Check.act(x, 0, 9, 2, 3, 0);
        Check.act(x, 0, 3, 4, 0, 0);
        Check.act(x, 0, 9, 2, 0, 4);
        String want = "#1 [#2 #3 #2] [#4 #1 . -12] {0 -12 0} []";
        Check.shown(x, 3, want);
        Check.due("turn()", x.turn() ? 1 : 0, 1);
        Check.act(x, 0, 2, 2, 0, 0);
        Check.shown(x, 3, want);
        int before = x.memory(5);
        Check.shown(x, 4, "#1 []");
        Check.memory(x, 5, before);
        // half way between the halves it is shown alike
        for (int i = 0; i < 6; i++) {
            x.pass(3);
            Check.shown(x, 3, want);
        }
    }

    private static void longText() {
        TwinHalves x = new TwinHalves(200, 1);
        Check.act(x, 0, 3, 0, 40, 0);
        Check.act(x, 0, 4, 1, 40, 0);
        Check.act(x, 0, 0, 2, -1111111111, 0);
        for (int i = 0; i < 40; i++) {
            Check.act(x, 0, 9, 1, i, 2);
            Check.act(x, 0, 9, 0, i, 1);
        }
        String all = "#1 [" + "#2 ".repeat(39) + "#2] {" + "-1111111111 ".repeat(39) + "-1111111111}";
        Check.due("there is too much for TEXT", all.length() > 600 ? 1 : 0, 1);
        Check.due("show(0)", x.show(0), 600);
        for (int i = 300; i < 600; i++) {
            Check.due("letter(" + i + ")", x.letter(i), all.charAt(i));
        }
        Check.due("letter(600)", x.letter(600), -1);
        Check.shown(x, 2, "-1111111111");
    }

    private static void textStays() {
        TwinHalves x = filled();
        Check.due("letter(0)", x.letter(0), -1);
        Check.shown(x, 0, "-12");
        for (int wrong : new int[] {-1, 8, Integer.MIN_VALUE, Integer.MAX_VALUE}) {
            Check.due("show(" + wrong + ")", x.show(wrong), -1);
            Check.due("letter(" + wrong + ")", x.letter(wrong), -1);
        }
        Check.act(x, 0, 0, 0, 5, 0);
        Check.due("TEXT", Check.text(x), "-12");
        Check.due("letter(2)", x.letter(2), '2');
        Check.due("letter(3)", x.letter(3), -1);
    }
}
