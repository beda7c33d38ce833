import java.util.Arrays;
import java.util.List;

/** ACTS 0 to 19, written as in a program, done outside of a run by act(); and what the edge tests look at. */
final class Acts {
    private static final List<String> WORDS = Arrays.asList("set", "copy", "none", "row", "plain", "rows", "plains",
            "get", "gets", "put", "puts", "size", "kind", "add", "sub", "mul", "less", "same", "push", "pop");

    private Acts() {
    }

    /** Does ACTS with a ; between them, none of which may be REFUSED. */
    static void done(TwinHalves x, String acts) {
        for (String act : acts.split(";")) {
            refused(x, 0, act.trim());
        }
    }

    /** Tries one ACT, which must be REFUSED for a kind. */
    static void refused(TwinHalves x, int kind, String act) {
        String[] parts = act.split(" ");
        int[] taken = new int[3];
        for (int i = 1; i < parts.length; i++) {
            char first = parts[i].charAt(0);
            taken[i - 1] = first >= 'a' && first <= 'h' ? first - 'a' : Integer.parseInt(parts[i]);
        }
        Check.due(act, x.act(WORDS.indexOf(parts[0]), taken[0], taken[1], taken[2]), kind);
    }

    /** Tries one ACT, which must be REFUSED and change nothing at all. */
    static void refusedWithoutChange(TwinHalves x, int kind, String act) {
        String before = state(x);
        refused(x, kind, act);
        Check.due("the state behind " + act, state(x), before);
    }

    static void turned(TwinHalves x, boolean want) {
        Check.due("turn()", x.turn(), want);
    }

    static void passed(TwinHalves x, int n, int want) {
        Check.due("pass(" + n + ")", x.pass(n), want);
    }

    /** FLOOR, PASSED and ROOF. */
    static void lies(TwinHalves x, int floor, int passed, int roof) {
        Check.memory(x, 0, floor);
        Check.memory(x, 1, passed);
        Check.memory(x, 2, roof);
    }

    /** How often it was SPENT, LATE, FULL. */
    static void failures(TwinHalves x, int spent, int late, int full) {
        Check.memory(x, 8, spent);
        Check.memory(x, 9, late);
        Check.memory(x, 10, full);
    }

    static void reached(TwinHalves x, int things, int words) {
        Check.due("reach(0)", x.reach(0), things);
        Check.due("reach(1)", x.reach(1), words);
    }

    /** A HAND's kind of WORD, and the NUMBER or how many SLOTS. */
    static void has(TwinHalves x, String hand, int kind, int detail) {
        int r = hand.charAt(0) - 'a';
        Check.due("hand(" + r + ", 0)", x.hand(r, 0), kind);
        Check.due("hand(" + r + ", 1)", x.hand(r, 1), detail);
    }

    static void place(TwinHalves x, String hand, int want) {
        int r = hand.charAt(0) - 'a';
        Check.due("hand(" + r + ", 2)", x.hand(r, 2), want);
    }

    /** A SLOT's kind of WORD, the NUMBER or how many SLOTS, and the half. */
    static void slot(TwinHalves x, String hand, int i, int kind, int detail, int half) {
        int r = hand.charAt(0) - 'a';
        Check.due("slot(" + r + ", " + i + ", 0)", x.slot(r, i, 0), kind);
        Check.due("slot(" + r + ", " + i + ", 1)", x.slot(r, i, 1), detail);
        Check.due("slot(" + r + ", " + i + ", 2)", x.slot(r, i, 2), half);
    }

    /** All that is told of HANDS, their first SLOTS, the STACK's lowest and uppermost WORDS, and the memory. */
    static String memoryOf(TwinHalves x) {
        StringBuilder all = new StringBuilder();
        for (int what = 0; what < 13; what++) {
            all.append(x.memory(what)).append(' ');
        }
        for (int what = 0; what < 3; what++) {
            for (int r = 0; r < 8; r++) {
                all.append(x.hand(r, what)).append(' ').append(x.slot(r, 0, what)).append(' ');
            }
            all.append(x.stack(0, what)).append(' ').append(x.stack(49, what)).append(' ');
        }
        return all.append(x.reach(0)).append(' ').append(x.reach(1)).append(' ').toString();
    }

    static String runOf(TwinHalves x) {
        StringBuilder all = new StringBuilder();
        for (int what = 0; what < 7; what++) {
            all.append(x.about(what)).append(' ');
        }
        return all.toString();
    }

    static String state(TwinHalves x) {
        return memoryOf(x) + runOf(x);
    }
}
