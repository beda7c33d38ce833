import java.util.Random;

/**
 * Runs of calls, drawn by fixed seeds, on the class and on the Model side by side: promises 1 to 19. No
 * object is called more than 512 times, since nothing is promised behind that.
 */
public final class ModelTest {
    /** Calls that a program may still be typed behind (its feeding takes up to 100), and the run goes on behind. */
    private static final int LAST_PROGRAM = 270;
    private static final int LAST_STEP = 380;
    private static final int[] EDGES = {-1, 0, 1, 2, 39, 40, 41, 7, 8, Integer.MIN_VALUE, Integer.MAX_VALUE};

    private final Random dice;
    /** 0: many programs; 1: many TURNS; others: neither. */
    private final int mood;
    private final TwinHalves real;
    private final Model model;
    private final String name;
    private int calls;
    private static final int[] refusals = new int[11];
    private static final int[] faults = new int[6];

    private ModelTest(long seed) {
        dice = new Random(seed);
        mood = (int) (seed % 4);
        // half of the runs have narrow halves and pass few words, so that SPENT, LATE and FULL come up
        boolean narrow = seed % 8 < 4;
        int wide = dice.nextInt(10) == 0 ? dice.nextInt(1400) - 50 : 16 + dice.nextInt(400);
        int size = narrow ? 16 + dice.nextInt(24) : wide;
        int k = narrow ? dice.nextInt(2) : dice.nextInt(9) - 1;
        name = "seed " + seed + ", TwinHalves(" + size + ", " + k + "): ";
        real = new TwinHalves(size, k);
        model = new Model(size, k);
    }

    public static void main(String[] args) {
        int seeds = args.length > 0 ? Integer.parseInt(args[0]) : 8000;
        for (int seed = 0; seed < seeds && Check.allRight(); seed++) {
            new ModelTest(seed).go();
        }
        for (int kind = 1; kind <= 10; kind++) {
            Check.due("refusal " + kind + " came up", refusals[kind] > 0 ? 1 : 0, 1);
        }
        for (int kind = 1; kind <= 5; kind++) {
            Check.due("fault " + kind + " came up", faults[kind] > 0 ? 1 : 0, 1);
        }
        if (args.length > 0) {
            System.out.println(java.util.Arrays.toString(refusals) + java.util.Arrays.toString(faults));
        }
        Check.end();
    }

    private void due(String call, String got, String want) {
        calls++;
        Check.due(name + call, got, want);
    }

    private void due(String call, int got, int want) {
        calls++;
        if (got != want) {
            Check.due(name + call, got, want);
        }
    }

    private void go() {
        while (calls < LAST_STEP && Check.allRight()) {
            int draw = dice.nextInt(100);
            if (calls < LAST_PROGRAM && (mood == 0 && draw < 20 || draw < 2)) {
                newProgram();
            } else if (mood == 0 && draw < 50 || draw < 8) {
                runSome();
            } else if (draw < 80) {
                anAct();
            } else if (draw < 84) {
                int n = dice.nextInt(6) == 0 ? 990 + dice.nextInt(20) : dice.nextInt(12) - 1;
                due("pass(" + n + ")", real.pass(n), model.pass(n));
            } else if (draw < (mood == 1 ? 92 : 87)) {
                due("turn()", real.turn() ? 1 : 0, model.turn() ? 1 : 0);
            } else if (draw < 94 && dice.nextInt(4) == 0) {
                tapeCalls();
            } else {
                look();
            }
            for (int i = 0; i < 2; i++) {
                int what = dice.nextInt(17) - 1;
                due("memory(" + what + ")", real.memory(what), model.memory(what));
            }
        }
        lookAtAll();
        Check.due(name + "at most 512 calls", calls <= 512, true);
    }

    private int edge(int most) {
        return dice.nextInt(12) == 0 ? EDGES[dice.nextInt(EDGES.length)] : dice.nextInt(most);
    }

    private int handNumber() {
        return dice.nextInt(60) == 0 ? EDGES[dice.nextInt(EDGES.length)] : dice.nextInt(dice.nextBoolean() ? 8 : 3);
    }

    private void anAct() {
        int op = dice.nextInt(50) == 0 ? dice.nextInt(40) - 10 : likelyOp();
        int[] given = new int[3];
        String takes = op >= 0 && op < 20 ? Model.TAKES[op] : "";
        for (int i = 0; i < 3; i++) {
            boolean number = i < takes.length() && takes.charAt(i) == 'N';
            given[i] = number ? edge(6) : handNumber();
        }
        int want = model.act(op, given[0], given[1], given[2]);
        due("act(" + op + ", " + given[0] + ", " + given[1] + ", " + given[2] + ")",
                real.act(op, given[0], given[1], given[2]), want);
        refusals[Math.max(0, want)]++;
    }

    private int likelyOp() {
        int[] often = {3, 3, 3, 4, 7, 7, 9, 9, 9, 18, 19, 1};
        return dice.nextBoolean() ? often[dice.nextInt(often.length)] : dice.nextInt(20);
    }

    private void tapeCalls() {
        if (dice.nextBoolean()) {
            int[] n = {dice.nextInt(), dice.nextInt(), dice.nextInt(), dice.nextInt(), dice.nextInt()};
            due("feed", real.feed(n[0], n[1], n[2], n[3], n[4]), model.feed(n));
        } else {
            int n = dice.nextInt(30) - 3;
            due("end(" + n + ")", real.end(n), model.end(n));
        }
    }

    private void newProgram() {
        String source = source();
        due("end(0)", real.end(0), model.end(0));
        byte[] bytes = source.getBytes(java.nio.charset.StandardCharsets.ISO_8859_1);
        for (int at = 0; at < bytes.length; at += 20) {
            int[] n = new int[5];
            for (int i = 0; i < 5; i++) {
                n[i] = Check.numberAt(bytes, at + 4 * i);
            }
            due("feed", real.feed(n[0], n[1], n[2], n[3], n[4]), model.feed(n));
        }
        due("end", real.end(bytes.length), model.end(bytes.length));
        due("program() of " + source, real.program(), model.program());
        due("fault()", real.fault(), model.fault());
        faults[model.fault()]++;
        if (dice.nextInt(8) != 0) {
            beginBoth();
        }
    }

    private void beginBoth() {
        due("begin()", Check.begin(real), Check.answer(() -> {
            model.begin();
            return 0;
        }));
    }

    private String source() {
        int most = dice.nextInt(15) == 0 ? 145 + dice.nextInt(10) : dice.nextInt(25);
        int labels = dice.nextInt(6);
        StringBuilder out = new StringBuilder();
        for (int i = 0; i < most; i++) {
            if (i < labels) {
                out.append("l").append(i).append(gap()).append(":").append(gap());
            }
            int op = most > 100 ? 18 + dice.nextInt(3) : dice.nextInt(5) == 0 ? 20 + dice.nextInt(6) : likelyOp();
            op = op == 25 && dice.nextInt(4) != 0 ? 3 : op;
            out.append(Model.WORDS.get(op));
            for (char taken : Model.TAKES[op].toCharArray()) {
                out.append(" ").append(gap()).append(operand(taken, labels));
            }
            out.append(";").append(gap());
        }
        if (dice.nextInt(4) == 0) {
            spoil(out);
        }
        out.setLength(Math.min(2000, out.length()));
        return out.toString();
    }

    private String gap() {
        int draw = dice.nextInt(12);
        return draw == 0 ? " " : draw == 1 ? "\n" : draw == 2 ? " \n " : "";
    }

    private String operand(char taken, int labels) {
        if (taken == 'N') {
            return Integer.toString(edge(6));
        }
        if (taken == 'L') {
            return "l" + (dice.nextInt(40) == 0 ? 9 : dice.nextInt(Math.max(1, labels)));
        }
        return Character.toString((char) ('a' + dice.nextInt(dice.nextBoolean() ? 8 : 3)));
    }

    private void spoil(StringBuilder out) {
        String[] bits = {"-", ":", ";", "a", "l0", "l1:", "set", "7", "12345678901", "2147483648", "-2147483649", "A",
            "\u00ff", "\t", "abcdefgh", "abcdefghi", "z9", "\n", " ", "0x", "-5", "stop;", "l0: stop;",
            "l1:stop;", "i"};
        for (int i = 1 + dice.nextInt(2); i > 0; i--) {
            int at = dice.nextInt(out.length() + 1);
            if (dice.nextInt(3) == 0 && at < out.length()) {
                out.deleteCharAt(at);
            } else if (dice.nextInt(3) == 0) {
                out.append(bits[dice.nextInt(bits.length)]);
            } else {
                out.insert(at, bits[dice.nextInt(bits.length)]);
            }
        }
    }

    private void runSome() {
        if (dice.nextInt(10) == 0) {
            beginBoth();
        }
        int n = dice.nextInt(20) == 0 ? dice.nextInt(2010) - 5 : dice.nextInt(30);
        due("run(" + n + ")", Check.run(real, n), Check.answer(() -> model.run(n)));
        for (int what = -1; what < 8; what++) {
            due("about(" + what + ")", real.about(what), model.about(what));
        }
        refusals[model.about(1)]++;
        int i = dice.nextInt(4) == 0 ? dice.nextInt(310) - 4 : dice.nextInt(5);
        due("said(" + i + ")", Check.said(real, i), Check.answer(() -> model.said(i)));
    }

    private void look() {
        int r = handNumber();
        int i = edge(6);
        int what = dice.nextInt(5) - 1;
        due("hand(" + r + ", " + what + ")", real.hand(r, what), model.hand(r, what));
        due("stack(" + i + ", " + what + ")", real.stack(i, what), model.stack(i, what));
        due("slot(" + r + ", " + i + ", " + what + ")", real.slot(r, i, what), model.slot(r, i, what));
        due("reach(" + what + ")", real.reach(what), model.reach(what));
        due("show(" + r + ")", real.show(r), model.show(r));
        int length = model.text.length();
        for (int at : new int[] {i, length - 1, length, 600, dice.nextInt(length + 1), dice.nextInt(length + 1)}) {
            due("letter(" + at + ")", real.letter(at), model.letter(at));
        }
    }

    private void lookAtAll() {
        for (int what = -1; what < 16; what++) {
            due("memory(" + what + ")", real.memory(what), model.memory(what));
        }
        for (int r = 0; r < 8; r++) {
            for (int what = 0; what < 3; what++) {
                due("hand(" + r + ", " + what + ")", real.hand(r, what), model.hand(r, what));
                int i = dice.nextInt(8);
                due("slot(" + r + ", " + i + ", " + what + ")", real.slot(r, i, what), model.slot(r, i, what));
                due("stack(" + i + ", " + what + ")", real.stack(i, what), model.stack(i, what));
            }
        }
    }
}
