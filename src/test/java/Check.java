import java.util.function.IntSupplier;

/** What the tests share: counting wrong answers, feeding texts, naming exceptions. */
final class Check {
    private static int wrong = 0;
    private static String sentence = "";

    private Check() {
    }

    /** Names the document's part, and its sentence, that the checks from here on are about. */
    static void about(String part, String told) {
        sentence = part + " (" + told + "): ";
    }

    static void due(String call, long got, long want) {
        due(call, Long.toString(got), Long.toString(want));
    }

    static void due(String call, boolean got, boolean want) {
        due(call, Boolean.toString(got), Boolean.toString(want));
    }

    static void due(String call, String got, String want) {
        if (!got.equals(want)) {
            wrong++;
            System.out.println(sentence + call + " answered " + got + ", due is " + want);
        }
    }

    static boolean allRight() {
        return wrong == 0;
    }

    static void end() {
        if (wrong != 0) {
            System.out.println(wrong + " answers are not as due");
            System.exit(1);
        }
    }

    /** The answer of a call, or the name of what it throws. */
    static String answer(IntSupplier call) {
        try {
            return Integer.toString(call.getAsInt());
        } catch (RuntimeException e) {
            return "throws." + e.getClass().getSimpleName();
        }
    }

    static String begin(TwinHalves x) {
        return answer(() -> {
            x.begin();
            return 0;
        });
    }

    static String run(TwinHalves x, int n) {
        return answer(() -> x.run(n));
    }

    static String said(TwinHalves x, int i) {
        return answer(() -> x.said(i));
    }

    /** The number that four bytes make, the highest first; spaces behind the last byte. */
    static int numberAt(byte[] bytes, int at) {
        int number = 0;
        for (int i = 0; i < 4; i++) {
            number = number << 8 | (at + i < bytes.length ? bytes[at + i] & 255 : ' ');
        }
        return number;
    }

    /** Puts a text on an empty TAPE. */
    static void type(TwinHalves x, String text) {
        byte[] bytes = text.getBytes(java.nio.charset.StandardCharsets.ISO_8859_1);
        for (int at = 0; at < bytes.length; at += 20) {
            x.feed(numberAt(bytes, at), numberAt(bytes, at + 4), numberAt(bytes, at + 8),
                    numberAt(bytes, at + 12), numberAt(bytes, at + 16));
        }
        due("end(" + bytes.length + ")", x.end(bytes.length), bytes.length);
    }

    /** Makes a text the program and begins a run of it. */
    static void start(TwinHalves x, String text) {
        type(x, text);
        int acts = x.program();
        due("program() of " + text + " is one", acts < 0 ? acts : 0, 0);
        due("begin()", begin(x), "0");
    }

    static void fault(String text, int kind, int place) {
        TwinHalves x = new TwinHalves(16, 1);
        type(x, text);
        due("program() of " + text, x.program(), -1 - place);
        due("fault() of " + text, x.fault(), kind);
    }

    static void acts(String text, int count) {
        TwinHalves x = new TwinHalves(16, 1);
        type(x, text);
        due("program() of " + text, x.program(), count);
        due("fault() of " + text, x.fault(), 0);
    }

    static void act(TwinHalves x, int want, int op, int a, int b, int c) {
        due("act(" + op + ", " + a + ", " + b + ", " + c + ")", x.act(op, a, b, c), want);
    }

    static void memory(TwinHalves x, int what, int want) {
        due("memory(" + what + ")", x.memory(what), want);
    }

    static void shown(TwinHalves x, int r, String want) {
        due("show(" + r + ")", x.show(r), want.length());
        due("TEXT", text(x), want);
    }

    static String text(TwinHalves x) {
        StringBuilder text = new StringBuilder();
        int letter = x.letter(0);
        while (letter != TwinHalves.NONE) {
            text.append((char) letter);
            letter = x.letter(text.length());
        }
        return text.toString();
    }
}
