/** The boundary cases of "Terms", part 3: TEXTS, their TOKENS, PROGRAMS, and FAULTS. */
public final class TextsEdgeTest {
    private static final String TOKENS = "Terms 3, TOKENS";
    private static final String PROGRAM = "Terms 3, a PROGRAM";
    private static final String[] TAKES = {"set HN", "copy HH", "none H", "row HN", "plain HN", "rows HH", "plains HH",
        "get HHN", "gets HHH", "put HNH", "puts HHH", "size HH", "kind HH", "add HHH", "sub HHH", "mul HHH",
        "less HHH", "same HHH", "push H", "pop H", "say H", "jump L", "zero HL", "call L", "back ", "stop "};

    public static void main(String[] args) {
        fullTape();
        longestTokens();
        names();
        namesTooLong();
        digits();
        digitsTooMany();
        ints();
        intsTooGreat();
        minusRightAhead();
        everyByte();
        bytesBetween();
        handsWordsLabels();
        emptyPrograms();
        whatActsTake();
        cutAheadOfReading();
        firstUncutAtItsFirstByte();
        cantStandThere();
        atTheEnd();
        nothingBehindTheEnd();
        labelTwice();
        labelsThatDiffer();
        mostActs();
        tooManyActs();
        leastKindOfOneToken();
        missingLabels();
        Check.end();
    }

    private static void fullTape() {
        Check.about("Terms 3", "The TAPE has bytes, at most 2000");
        Check.acts(" ".repeat(1995) + "stop;", 1);
        Check.acts("stop;" + " ".repeat(1995), 1);
        Check.fault(" ".repeat(1996) + "stop", 2, 2000);
        Check.fault("stop;" + "\n".repeat(1994) + ";", 2, 1999);
        Check.fault("stop;" + " ".repeat(1994) + "?", 1, 1999);
        // as many TOKENS as there are bytes
        Check.fault(":".repeat(2000), 2, 0);
        Check.fault("stop;" + ";".repeat(1995), 2, 5);
        // a NAME and a NUMBER as long as the TAPE
        Check.fault("a".repeat(2000), 1, 0);
        Check.fault("0".repeat(2000), 1, 0);
    }

    private static void longestTokens() {
        Check.about(TOKENS, "each as long as it can be");
        Check.acts("set1:jump set1;", 1);
        Check.acts("stop1:jump stop1;", 1);
        Check.acts("sto:jump sto;", 1);
        Check.acts("put a 1b;", 1);
        Check.acts("put a-1b;", 1);
        Check.acts("set a 1;set b-1;set c 10;", 3);
        Check.fault("seta 1;", 2, 5);
        Check.fault("set a 1 2;", 2, 8);
        Check.fault("set a 1-2;", 2, 7);
        Check.fault("put a1 b;", 2, 4);
    }

    private static void names() {
        Check.about(TOKENS, "NAMES (a letter a .. z, then letters and digits 0 .. 9, 8 at most in all)");
        for (String name : "i z a0 z9 a9z0 aaaaaaaa zzzzzzzz a0000000 z9999999 abcdefgh".split(" ")) {
            Check.acts(name + ":jump " + name + ";", 1);
        }
        // a NAME begins with a letter
        Check.fault("0a:stop;", 2, 0);
        Check.fault("jump 0a;", 2, 5);
    }

    private static void namesTooLong() {
        Check.about(TOKENS, "8 at most in all; FAULT 1: a NAME that is not as told (too long)");
        Check.fault("abcdefghi:stop;", 1, 0);
        Check.fault("stop;a23456789:stop;", 1, 5);
        Check.fault("jump  abcdefgh9;", 1, 6);
        Check.fault("stop; " + "z".repeat(100), 1, 6);
        // the 9th byte must not be cut off, nor be a TOKEN of its own
        Check.fault("abcdefgh:stop;jump abcdefghi;", 1, 19);
        Check.fault("puts a b cccccccccc;", 1, 9);
    }

    private static void digits() {
        Check.about(TOKENS, "NUMBERS (1 to 10 digits)");
        String[] texts = {"0", "9", "0000000000", "0000000009", "-0000000001", "1000000000", "-9", "00"};
        int[] numbers = {0, 9, 0, 9, -1, 1000000000, -9, 0};
        for (int i = 0; i < texts.length; i++) {
            saidNumber(texts[i], numbers[i]);
        }
    }

    private static void saidNumber(String text, int number) {
        TwinHalves x = new TwinHalves(16, 1);
        Check.start(x, "set h " + text + ";");
        Check.due("run(1) of " + text, Check.run(x, 1), "1");
        Acts.has(x, "h", 0, number);
    }

    private static void digitsTooMany() {
        Check.about(TOKENS, "1 to 10 digits; FAULT 1: a NUMBER that is not as told (too long)");
        Check.fault("set a 00000000000;", 1, 6);
        Check.fault("set a 00000000001;", 1, 6);
        Check.fault("set a -00000000001;", 1, 6);
        Check.fault("set a 10000000000;", 1, 6);
        Check.fault("set a 4294967296;", 1, 6);
        Check.fault("set a 42949672960;", 1, 6);
        Check.fault("set a 18446744073709551616;", 1, 6);
        Check.fault("set a -18446744073709551615;", 1, 6);
    }

    private static void ints() {
        Check.about(TOKENS, "NUMBERS (an int)");
        saidNumber("2147483647", Integer.MAX_VALUE);
        saidNumber("-2147483648", Integer.MIN_VALUE);
        saidNumber("-2147483647", -Integer.MAX_VALUE);
        saidNumber("-0", 0);
    }

    private static void intsTooGreat() {
        Check.about(TOKENS, "an int; FAULT 1: a NUMBER that is not as told (too great)");
        Check.fault("set a 2147483648;", 1, 6);
        Check.fault("set a -2147483649;", 1, 6);
        Check.fault("set a 9999999999;", 1, 6);
        Check.fault("set a -9999999999;", 1, 6);
        Check.fault("set a 4294967295;", 1, 6);
        Check.fault("set a 4294967297;", 1, 6);
    }

    private static void minusRightAhead() {
        Check.about(TOKENS, "perhaps a - right ahead; FAULT 1: a - without a digit right behind");
        Check.fault("set a - 1;", 1, 6);
        Check.fault("set a -\n1;", 1, 6);
        Check.fault("set a --1;", 1, 6);
        Check.fault("set a -a;", 1, 6);
        Check.fault("set a -;", 1, 6);
        Check.fault("set a 1-;", 1, 7);
        Check.fault("-", 1, 0);
        Check.fault("set a -", 1, 6);
    }

    private static void everyByte() {
        Check.about(TOKENS, "FAULT 1: a byte with which no TOKEN begins");
        for (int b = 0; b < 256; b++) {
            String text = "stop;" + (char) b;
            boolean isSpace = b == 32 || b == 10;
            boolean isLetter = b >= 'a' && b <= 'z';
            boolean begins = isLetter || b >= '0' && b <= '9' || b == ':' || b == ';';
            if (isSpace) {
                Check.acts(text, 1);
            } else if (begins) {
                // a LABEL could stand there; what is behind it, the end, can't
                Check.fault(text, 2, isLetter && b > 'h' ? 6 : 5);
            } else {
                Check.fault(text, 1, 5);
            }
        }
    }

    private static void bytesBetween() {
        Check.about(TOKENS, "Between them bytes 32 and 10 as one likes");
        Check.acts("set a 1;x:jump x;", 2);
        Check.acts("\n\n set \n a\n1 \n;\n x \n : \n jump\nx\n;\n ", 2);
        Check.acts("set a\n-1;", 1);
        Check.fault("set\ta 1;", 1, 3);
        Check.fault("set a 1;\r\n", 1, 8);
        // none is needed, but two NAMES or digits side by side are one TOKEN
        Check.fault("x:jumpx;", 2, 2);
    }

    private static void handsWordsLabels() {
        Check.about("Terms 3", "a .. h are HANDS; other NAMES are LABELS");
        for (char hand = 'a'; hand <= 'h'; hand++) {
            Check.acts("set " + hand + " 1;", 1);
            Check.fault(hand + ":stop;", 2, 0);
            Check.fault("jump " + hand + ";", 2, 5);
        }
        for (String label : "i z aa ha a1 h8".split(" ")) {
            Check.fault("set " + label + " 1;", 2, 4);
            Check.acts(label + ":jump " + label + ";", 1);
        }
        for (String takes : TAKES) {
            String word = takes.substring(0, takes.indexOf(' '));
            Check.fault(word + ":stop;", 2, word.length());
            Check.fault("jump " + word + ";", 2, 5);
            Check.acts(word + "0:jump " + word + "0;", 1);
        }
    }

    private static void emptyPrograms() {
        Check.about(PROGRAM, "{ [LABEL :] ACT ; }: also none");
        Check.acts("", 0);
        Check.acts(" ", 0);
        Check.acts("\n", 0);
        Check.acts(" ".repeat(2000), 0);
        Check.fault(";", 2, 0);
        Check.fault(":", 2, 0);
    }

    private static String token(char taken) {
        return taken == 'H' ? "a" : taken == 'N' ? "5" : taken == 'L' ? "x" : ";";
    }

    /** An ACT with each thing that it takes in turn left out, made another, or one too many. */
    private static void whatActsTake() {
        Check.about(PROGRAM, "an ACT being its WORD, then what it takes");
        for (String act : TAKES) {
            StringBuilder text = new StringBuilder("x:").append(act, 0, act.indexOf(' '));
            String takes = act.substring(act.indexOf(' ') + 1) + ';';
            for (char due : takes.toCharArray()) {
                text.append(' ');
                for (String other : new String[] {"a", "5", "x", ";", ":", "set"}) {
                    if (!other.equals(token(due))) {
                        Check.fault(text + other + ";", 2, text.length());
                    }
                }
                Check.fault(text.toString(), 2, text.length());
                text.append(token(due));
            }
            Check.acts(text.toString(), 1);
        }
    }

    private static void cutAheadOfReading() {
        Check.about("Terms 3, FAULTS", "First all is cut");
        Check.fault(";;;;?", 1, 4);
        Check.fault("x:stop;x:stop;jump y;-", 1, 21);
        Check.fault("stop;".repeat(151) + "2147483648", 1, 755);
        Check.fault("jump y;abcdefghi", 1, 7);
    }

    private static void firstUncutAtItsFirstByte() {
        Check.about("Terms 3, FAULT 1", "the first one, at its first byte");
        Check.fault("set a 99999999999;?", 1, 6);
        Check.fault("set a ?99999999999;", 1, 6);
        Check.fault("  -99999999999 -", 1, 2);
        Check.fault("ab abcdefghij klmnopqrst", 1, 3);
        Check.fault("abcdefgh?", 1, 8);
        Check.fault("2147483647?", 1, 10);
    }

    private static void cantStandThere() {
        Check.about("Terms 3, FAULT 2", "read from the left, the first that is met: a TOKEN that can't stand there");
        Check.fault("5;", 2, 0);
        Check.fault("a;", 2, 0);
        Check.fault("stop;;", 2, 5);
        Check.fault("stop;:stop;", 2, 5);
        Check.fault("x stop;", 2, 2);
        Check.fault("x;", 2, 1);
        Check.fault("x x:stop;", 2, 2);
        Check.fault("x:x:stop;", 2, 2);
        Check.fault("x:y:stop;", 2, 2);
        Check.fault("x:;", 2, 2);
        Check.fault("x::stop;", 2, 2);
        Check.fault("stop stop;", 2, 5);
        Check.fault("stop 5; stop 6;", 2, 5);
        Check.fault("x:jump x:stop;", 2, 8);
    }

    private static void atTheEnd() {
        Check.about("Terms 3, FAULT 2", "at the end: the text's length");
        Check.fault("stop", 2, 4);
        Check.fault("stop \n ", 2, 7);
        Check.fault("x", 2, 1);
        Check.fault("x ", 2, 2);
        Check.fault("x:", 2, 2);
        Check.fault("x:\n", 2, 3);
        Check.fault("stop;x:", 2, 7);
        Check.fault("set", 2, 3);
        Check.fault("set a", 2, 5);
        Check.fault("set a 1", 2, 7);
        Check.fault("jump ", 2, 5);
        Check.fault("jump x", 2, 6);
    }

    /** The FAULT of a text's first bytes, where an earlier text had TOKENS behind them. */
    private static void faultOfFirst(TwinHalves x, String text, int length, int kind, int place) {
        Check.type(x, text);
        Check.due("program() of " + text, x.program() >= 0, true);
        Check.type(x, text);
        Check.due("end(" + length + ")", x.end(length), length);
        Check.due("program() of the first " + length, x.program(), -1 - place);
        Check.due("fault()", x.fault(), kind);
    }

    private static void nothingBehindTheEnd() {
        Check.about("Terms 3, FAULT 2", "at the end: nothing is there, whatever an earlier text had");
        TwinHalves x = new TwinHalves(16, 1);
        String text = "x:zero a x;y:set b 1;";
        for (int length : new int[] {1, 2, 6, 8, 10, 12, 13, 16, 18, 20}) {
            faultOfFirst(x, text, length, 2, length);
        }
        faultOfFirst(x, "x:stop;jump y;y:stop;", 14, 4, 12);
        Check.type(x, "x:stop;");
        Check.due("program()", x.program(), 1);
        Check.type(x, "stop;jump x;");
        Check.due("program(): an earlier text's LABEL", x.program(), -11);
        Check.due("fault()", x.fault(), 4);
    }

    private static void labelTwice() {
        Check.about("Terms 3, FAULT 3", "a LABEL right ahead of a : that stood so before");
        Check.fault("x:stop;x:stop;", 3, 7);
        Check.fault("x:stop;y:stop;x:stop;y:stop;", 3, 14);
        Check.fault("x:stop; x \n : 5", 3, 8);
        Check.fault("x:stop;x:", 3, 7);
        Check.fault("aaaaaaaa:stop;aaaaaaaa:stop;", 3, 14);
        // LABELS that are not quite the same
        Check.acts("x:stop;xx:stop;x0:stop;x00:stop;aaaaaaaa:stop;aaaaaaa:stop;aaaaaaab:stop;baaaaaaa:stop;", 8);
        Check.acts("i0:stop;i:stop;i1:stop;ia:stop;i9:stop;iz:stop;", 6);
        // not right ahead of a :, or taken by an ACT
        Check.fault("x:stop;x", 2, 8);
        Check.fault("x:stop;x stop;", 2, 9);
        Check.acts("x:jump x;jump x;y:jump x;", 3);
        Check.acts("jump x;x:stop;", 2);
    }

    /** Each two of all NAMES of two bytes, and more, in one PROGRAM. */
    private static void labelsThatDiffer() {
        Check.about("Terms 3, FAULT 3", "a LABEL that stood so before: another one never");
        String signs = "0123456789abcdefghijklmnopqrstuvwxyz";
        int group = 72;
        String[] all = new String[26 * 36];
        for (int i = 0; i < all.length; i++) {
            all[i] = "" + (char) ('a' + i / 36) + signs.charAt(i % 36) + ":stop;";
        }
        for (int i = 0; i < all.length; i += group) {
            String some = String.join("", java.util.Arrays.copyOfRange(all, i, i + group));
            for (int j = i + group; j < all.length; j += group) {
                Check.acts(some + String.join("", java.util.Arrays.copyOfRange(all, j, j + group)), 2 * group);
            }
        }
        StringBuilder lengths = new StringBuilder();
        for (int length = 1; length <= 8; length++) {
            for (String sign : new String[] {"i", "z"}) {
                lengths.append(sign.repeat(length)).append(":stop;");
                lengths.append(length > 1 ? sign + "0".repeat(length - 1) + ":stop;" : "");
                lengths.append(length > 1 ? sign + "9".repeat(length - 1) + ":stop;" : "");
            }
        }
        Check.acts(lengths.toString(), 2 * (8 + 7 + 7));
        Check.fault("zz:stop;jump z;", 4, 13);
        Check.fault("z:stop;jump zz;", 4, 12);
    }

    private static void mostActs() {
        Check.about("Terms 3, FAULT 5", "a 151st ACT: 150 are fine");
        Check.acts("stop;".repeat(150), 150);
        Check.acts("stop;".repeat(149) + "x:jump x;", 150);
        Check.acts("jump x;" + "stop;".repeat(148) + "x:stop; \n ", 150);
        StringBuilder all = new StringBuilder();
        for (int i = 0; i < 150; i++) {
            all.append('l').append(i).append(":stop;");
        }
        Check.acts(all.toString(), 150);
        Check.fault(all + "l149:stop;", 3, all.length());
    }

    private static void tooManyActs() {
        Check.about("Terms 3, FAULT 5", "a TOKEN with which a 151st ACT, or the LABEL ahead of it, would begin");
        String most = "stop;".repeat(150);
        Check.fault(most + "stop;", 5, 750);
        Check.fault(most + "  stop", 5, 752);
        Check.fault(most + "x:stop;", 5, 750);
        Check.fault(most + "\nx:", 5, 751);
        Check.fault(most + "set 5;", 5, 750);
        Check.fault("stop;".repeat(300), 5, 750);
        // ahead of that, what is met first
        Check.fault("stop;".repeat(149) + "stop stop;", 2, 750);
        Check.fault("stop;".repeat(149) + "stop", 2, 749);
    }

    private static void leastKindOfOneToken() {
        Check.about("Terms 3, FAULTS", "Of one TOKEN the least kind");
        String most = "x:" + "stop;".repeat(150);
        Check.fault(most + "5", 2, 752);
        Check.fault(most + "a:stop;", 2, 752);
        Check.fault(most + ";", 2, 752);
        Check.fault(most + ":", 2, 752);
        Check.fault(most + "x:stop;", 3, 752);
        Check.fault(most + "x:", 3, 752);
        Check.fault(most + "y:stop;", 5, 752);
    }

    private static void missingLabels() {
        Check.about("Terms 3, FAULT 4", "the first LABEL that an ACT takes and that stands ahead of no ACT");
        Check.fault("jump y;", 4, 5);
        Check.fault("x:stop;jump xx;", 4, 12);
        Check.fault("x:jump x;zero a y;call z;", 4, 16);
        Check.fault("x:call x;call z;zero a y;", 4, 14);
        Check.fault("jump y;jump y;", 4, 5);
        Check.fault("jump y;;", 2, 7);
        Check.fault("jump y;x:stop;x:stop;", 3, 14);
        Check.fault("jump y;" + "stop;".repeat(150), 5, 752);
        Check.fault("jump y;" + "stop;".repeat(149), 4, 5);
        // ahead of the last ACT, and of the ACT that takes it
        Check.acts("jump y;x:stop;y:call x;z:zero a z;", 4);
    }
}
