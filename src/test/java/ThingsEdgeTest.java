/** The boundary cases of "Terms", part 1: THINGS, HALVES, HANDS, the STACK, the ROOTS. */
public final class ThingsEdgeTest {
    private static final String PART = "Terms 1";

    public static void main(String[] args) {
        fewestAndMostSlots();
        firstWordsOfARow();
        firstNumbersOfAPlainOne();
        onlyNumbersInAPlainOne();
        wordsTaken();
        lowestAndHighestPlace();
        thingItselfIsMeant();
        twoHalves();
        eightHands();
        stackOfFifty();
        rootsInOrder();
        noOtherRoots();
        Check.end();
    }

    private static void fewestAndMostSlots() {
        Check.about(PART, "n SLOTS (0 .. 40), from 0 on");
        for (String made : new String[] {"row", "plain"}) {
            for (int n : new int[] {0, 1, 39, 40}) {
                TwinHalves x = new TwinHalves(60, 1);
                Acts.done(x, made + " a " + n);
                int kind = made.equals("row") ? 1 : 0;
                Acts.has(x, "a", 3 - kind, n);
                Acts.slot(x, "a", -1, -1, -1, -1);
                Acts.slot(x, "a", n, -1, -1, -1);
                if (n > 0) {
                    Acts.slot(x, "a", 0, kind, 0, -1);
                    Acts.slot(x, "a", n - 1, kind, 0, -1);
                }
            }
        }
    }

    /** The half 0, 16 words, once held a THING with a WORD in each SLOT; it is PRESENT and empty again. */
    private static TwinHalves usedHalf(String made, String given) {
        TwinHalves x = new TwinHalves(16, 1);
        Acts.done(x, made + " a 14; set b 7; copy c a");
        for (int i = 0; i < 14; i++) {
            Acts.done(x, "put a " + i + " " + given);
        }
        Acts.done(x, "set a 0; set c 0");
        Acts.turned(x, true);
        Acts.turned(x, true);
        Acts.lies(x, 0, 0, 16);
        return x;
    }

    private static void firstWordsOfARow() {
        Check.about(PART, "in a ROW's are WORDS, at first NOBODY");
        for (TwinHalves x : new TwinHalves[] {usedHalf("plain", "b"), usedHalf("row", "c")}) {
            Acts.done(x, "row a 14");
            for (int i = 0; i < 14; i++) {
                Acts.slot(x, "a", i, 1, 0, -1);
            }
        }
    }

    private static void firstNumbersOfAPlainOne() {
        Check.about(PART, "in a PLAIN one's NUMBERS, at first 0");
        for (TwinHalves x : new TwinHalves[] {usedHalf("plain", "b"), usedHalf("row", "c")}) {
            Acts.done(x, "plain a 14");
            for (int i = 0; i < 14; i++) {
                Acts.slot(x, "a", i, 0, 0, -1);
            }
        }
    }

    private static void onlyNumbersInAPlainOne() {
        Check.about(PART, "in a PLAIN one's NUMBERS");
        TwinHalves x = new TwinHalves(40, 1);
        Acts.done(x, "plain a 1; row b 3; none c; set d -2147483648; set e 2147483647");
        Acts.refusedWithoutChange(x, 5, "put a 0 b");
        Acts.refusedWithoutChange(x, 5, "put a 0 c");
        Acts.done(x, "put a 0 d; put b 0 a; put b 1 c; put b 2 e");
        Acts.slot(x, "a", 0, 0, Integer.MIN_VALUE, -1);
        Acts.slot(x, "b", 0, 3, 1, 0);
        Acts.slot(x, "b", 1, 1, 0, -1);
        Acts.slot(x, "b", 2, 0, Integer.MAX_VALUE, -1);
    }

    private static void wordsTaken() {
        Check.about(PART, "It takes n + 2 words of a half, that lie side by side");
        for (String made : new String[] {"row", "plain"}) {
            TwinHalves x = new TwinHalves(100, 1);
            Acts.done(x, made + " a 0");
            Acts.lies(x, 0, 0, 98);
            Acts.reached(x, 1, 2);
            Acts.done(x, made + " b 40");
            Acts.lies(x, 0, 0, 56);
            Acts.reached(x, 2, 44);
            Acts.done(x, made + " c 1");
            Acts.place(x, "a", 98);
            Acts.place(x, "b", 56);
            Acts.place(x, "c", 53);
            Acts.turned(x, true);
            Acts.lies(x, 47, 0, 100);
            Acts.place(x, "a", 0);
            Acts.place(x, "b", 2);
            Acts.place(x, "c", 44);
        }
    }

    private static void lowestAndHighestPlace() {
        Check.about(PART, "Its PLACE is how many words of its half lie below its first one");
        TwinHalves x = new TwinHalves(16, 1);
        Acts.done(x, "row a 0");
        Acts.place(x, "a", 14);
        Acts.done(x, "row b 12");
        Acts.place(x, "b", 0);
        // in half 1 the same: half 0 has no word below it
        Acts.turned(x, true);
        Acts.place(x, "a", 0);
        Acts.place(x, "b", 2);
        Acts.done(x, "none a; none b");
        Acts.passed(x, 16, 16);
        Acts.turned(x, true);
        Acts.turned(x, true);
        Acts.done(x, "plain c 0; plain d 12");
        Check.memory(x, 3, 1);
        Acts.place(x, "c", 14);
        Acts.place(x, "d", 0);
    }

    private static void thingItselfIsMeant() {
        Check.about(PART, "the THING itself is meant, wherever it lies");
        TwinHalves x = new TwinHalves(40, 1);
        Acts.done(x, "row a 2; plain b 1; put a 0 b; put a 1 b; push b; set c 9");
        Acts.turned(x, true);
        // one write is seen by all that have the THING: HAND, STACK, a SLOT PASSED and one not PASSED
        Acts.passed(x, 3, 3);
        Acts.done(x, "put b 0 c; get d a 0; get e a 1; pop f; same g d e; same h f b");
        Acts.has(x, "g", 0, 1);
        Acts.has(x, "h", 0, 1);
        Acts.done(x, "same g b d");
        Acts.has(x, "g", 0, 1);
        for (String hand : new String[] {"b", "d", "e", "f"}) {
            Acts.slot(x, hand, 0, 0, 9, -1);
        }
        Acts.reached(x, 2, 7);
    }

    private static void twoHalves() {
        Check.about(PART, "two HALVES, 0 and 1, of SIZE words each: the PRESENT one (0 at first) and the OLD one");
        TwinHalves x = new TwinHalves(16, 1);
        for (int half = 0; half < 4; half++) {
            Check.memory(x, 3, half % 2);
            Acts.done(x, "row a 6; row b 6");
            Check.memory(x, 4, half);
            Acts.lies(x, 0, 0, 0);
            Acts.done(x, "put a 5 b; set b 0");
            Acts.slot(x, "a", 5, 2, 6, half % 2);
            Acts.done(x, "set a 0");
            Acts.turned(x, true);
        }
    }

    private static void eightHands() {
        Check.about(PART, "HANDS a b c d e f g h (0 .. 7) have a WORD each, at first the NUMBER 0");
        TwinHalves x = new TwinHalves(16, 1);
        for (int r = 0; r < 8; r++) {
            String hand = Character.toString((char) ('a' + r));
            Acts.has(x, hand, 0, 0);
            Acts.done(x, "set " + hand + " " + (r + 5));
        }
        for (int r = 0; r < 8; r++) {
            Check.due("hand(" + r + ", 1)", x.hand(r, 1), r + 5);
        }
    }

    private static void stackOfFifty() {
        Check.about(PART, "The STACK has up to 50 WORDS, at first none");
        TwinHalves x = new TwinHalves(16, 1);
        Check.due("stack(0, 0)", x.stack(0, 0), -1);
        Acts.refused(x, 6, "pop a");
        for (int i = 0; i < 50; i++) {
            Acts.done(x, "set a " + i + "; push a");
        }
        Acts.refused(x, 6, "push a");
        Check.due("stack(0, 1)", x.stack(0, 1), 0);
        Check.due("stack(49, 1)", x.stack(49, 1), 49);
        Check.due("stack(50, 1)", x.stack(50, 1), -1);
    }

    private static void rootsInOrder() {
        Check.about(PART, "HANDS, then the STACK from below, are the ROOTS");
        // 58 ROOTS, a THING of 2 words each: they take all of a half
        TwinHalves x = new TwinHalves(116, 1);
        for (int i = 0; i < 50; i++) {
            Acts.done(x, "row h 0; push h");
        }
        Acts.done(x, "row h 0; row g 0; row f 0; row e 0; row d 0; row c 0; row b 0; row a 0");
        Acts.lies(x, 0, 0, 0);
        Acts.reached(x, 58, 116);
        Acts.turned(x, true);
        Acts.lies(x, 116, 0, 116);
        for (int r = 0; r < 8; r++) {
            Check.due("hand(" + r + ", 2)", x.hand(r, 2), 2 * r);
        }
        for (int k = 0; k < 50; k++) {
            Check.due("stack(" + k + ", 2)", x.stack(k, 2), 16 + 2 * k);
        }
    }

    private static void noOtherRoots() {
        Check.about(PART, "HANDS, then the STACK, are the ROOTS: nothing else is");
        // NUMBERS are no THINGS, even if THINGS lie at such PLACES
        TwinHalves x = new TwinHalves(16, 1);
        Acts.done(x, "row a 0; row a 2; plain b 1; set a 14; push a; set a 10; put b 0 a");
        Acts.place(x, "b", 7);
        Acts.reached(x, 1, 3);
        Acts.turned(x, true);
        Acts.lies(x, 3, 0, 16);
        Check.memory(x, 12, 1);
        // what was popped is on the STACK no more
        TwinHalves y = new TwinHalves(16, 1);
        Acts.done(y, "row a 0; push a; push a; row b 1; push b; pop a; pop b; pop c; set a 0; set b 0; set c 0");
        Acts.reached(y, 0, 0);
        Acts.turned(y, true);
        Acts.lies(y, 0, 0, 16);
        Acts.done(y, "push a");
        Check.due("stack(0, 0)", y.stack(0, 0), 0);
        Check.due("stack(0, 2)", y.stack(0, 2), -1);
    }
}
