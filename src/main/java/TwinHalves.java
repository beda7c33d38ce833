import java.util.NoSuchElementException;

/**
 * A memory of two halves in which things are made, read and written while all that can still be
 * reached moves, bit by bit, from one half to the other. Words in capitals are the document's.
 */
public final class TwinHalves {
    public static final int NONE = -1;

    private static final int LEAST_SIZE = 16;
    private static final int MOST_SIZE = 1200;
    private static final int LEAST_K = 1;
    private static final int MOST_K = 6;
    private static final int TAPE_LIMIT = 2000;
    private static final int FEED_BYTES = 20;
    private static final int ACT_LIMIT = 150;
    private static final int TAKES_LIMIT = 3;
    private static final char TAKES_HAND = 'H';
    private static final char TAKES_NUMBER = 'N';
    private static final int RUN_LIMIT = 2000;
    private static final int PASS_LIMIT = 1000;
    private static final int LAST_ACT_OUTSIDE = 19;
    private static final int HANDS = 8;
    private static final int STACK_LIMIT = 50;

    private static final Act[] ACTS = Act.values();

    private final byte[] tape;
    private int tapeLength;
    private final Reader reader;
    private Program current;
    private Program spare;
    private boolean hasProgram;
    private int faultKind;
    private final Memory store;
    private final Doer doer;
    private final Runner runner;
    private final Walk walk;
    private final Text text;

    public TwinHalves(int size, int k) {
        tape = new byte[TAPE_LIMIT];
        reader = new Reader();
        current = new Program();
        spare = new Program();
        store = new Memory(nearest(size, LEAST_SIZE, MOST_SIZE), nearest(k, LEAST_K, MOST_K));
        doer = new Doer(store);
        runner = new Runner(doer, current);
        walk = new Walk(store);
        text = new Text();
    }

    public int feed(int a, int b, int c, int d, int e) {
        if (tapeLength + FEED_BYTES > TAPE_LIMIT) {
            return NONE;
        }
        feedNumber(a);
        feedNumber(b);
        feedNumber(c);
        feedNumber(d);
        feedNumber(e);
        return tapeLength;
    }

    public int end(int n) {
        if (n < 0 || n > tapeLength) {
            return NONE;
        }
        tapeLength = n;
        return n;
    }

    public int program() {
        int length = tapeLength;
        tapeLength = 0;
        faultKind = reader.readText(tape, length, spare);
        if (faultKind != 0) {
            return -1 - reader.faultPlace;
        }
        Program read = spare;
        spare = current;
        current = read;
        hasProgram = true;
        runner.forget();
        return current.count;
    }

    public int fault() {
        return faultKind;
    }

    public void begin() throws IllegalStateException {
        if (!hasProgram) {
            throw new IllegalStateException("there is no program");
        }
        runner.start(current);
    }

    public int run(int n) throws IllegalArgumentException, IllegalStateException {
        if (n < 0 || n > RUN_LIMIT) {
            throw new IllegalArgumentException("n is not 0 .. 2000");
        }
        if (runner.state == Runner.ABSENT) {
            throw new IllegalStateException("there is no run");
        }
        int done = 0;
        while (done < n && runner.step()) {
            done++;
        }
        return done;
    }

    public int about(int what) {
        switch (what) {
            case 0:
                return runner.state;
            case 1:
                return runner.refusal;
            case 2:
                return runner.nextAct();
            case 3:
                return runner.nextPlace();
            case 4:
                return runner.done;
            case 5:
                return runner.openCalls;
            case 6:
                return runner.saidCount;
            default:
                return NONE;
        }
    }

    public int said(int i) throws NoSuchElementException {
        if (!runner.hasSaid(i)) {
            throw new NoSuchElementException("there is no such number");
        }
        return runner.said[i];
    }

    public int act(int op, int x, int y, int z) {
        if (op < 0 || op > LAST_ACT_OUTSIDE) {
            return NONE;
        }
        Act asked = ACTS[op];
        return handsFit(asked, x, y, z) ? doer.perform(asked, x, y, z) : NONE;
    }

    public int pass(int n) {
        return n < 0 || n > PASS_LIMIT ? NONE : store.passWords(n);
    }

    public boolean turn() {
        if (store.passed < store.floor) {
            return false;
        }
        store.turnOver();
        return true;
    }

    public int memory(int what) {
        switch (what) {
            case 0:
                return store.floor;
            case 1:
                return store.passed;
            case 2:
                return store.roof;
            case 3:
                return store.present;
            case 13:
                return store.size;
            case 14:
                return store.k;
            default:
                return store.count(what);
        }
    }

    public int hand(int r, int what) {
        return isHand(r) ? store.aboutRoot(r, what) : NONE;
    }

    public int stack(int k, int what) {
        return k < 0 || k >= store.height ? NONE : store.aboutRoot(HANDS + k, what);
    }

    public int slot(int r, int i, int what) {
        int at = isHand(r) ? store.slotOf(r, i) : NONE;
        return at == NONE ? NONE : store.aboutSlot(at, what);
    }

    public int reach(int what) {
        if (what != 0 && what != 1) {
            return NONE;
        }
        walk.findFromRoots();
        return what == 0 ? walk.count : walk.words();
    }

    public int show(int r) {
        if (!isHand(r)) {
            return NONE;
        }
        text.length = 0;
        walk.write(r, text);
        return text.length;
    }

    public int letter(int i) {
        return i < 0 || i >= text.length ? NONE : text.bytes[i];
    }

    private void feedNumber(int number) {
        for (int shift = 24; shift >= 0; shift -= 8) {
            tape[tapeLength] = (byte) (number >> shift);
            tapeLength++;
        }
    }

    private static int nearest(int number, int least, int most) {
        return Math.max(least, Math.min(most, number));
    }

    private static boolean isHand(int r) {
        return r >= 0 && r < HANDS;
    }

    private static boolean handsFit(Act asked, int x, int y, int z) {
        for (int i = 0; i < asked.takes.length(); i++) {
            int given = i == 0 ? x : i == 1 ? y : z;
            if (asked.takes.charAt(i) == TAKES_HAND && !isHand(given)) {
                return false;
            }
        }
        return true;
    }

    /** The ACTS in the order of their numbers, and what each takes: H a HAND, N a NUMBER, L a LABEL. */
    private enum Act {
        SET("set", "HN"), COPY("copy", "HH"), NOTHING("none", "H"),
        ROW("row", "HN"), PLAIN("plain", "HN"), ROWS("rows", "HH"), PLAINS("plains", "HH"),
        GET("get", "HHN"), GETS("gets", "HHH"), PUT("put", "HNH"), PUTS("puts", "HHH"),
        SIZE("size", "HH"), KIND("kind", "HH"),
        ADD("add", "HHH"), SUB("sub", "HHH"), MUL("mul", "HHH"), LESS("less", "HHH"), SAME("same", "HHH"),
        PUSH("push", "H"), POP("pop", "H"), SAY("say", "H"),
        JUMP("jump", "L"), ZERO("zero", "HL"), CALL("call", "L"), BACK("back", ""), STOP("stop", "");

        final String word;
        final String takes;

        Act(String word, String takes) {
            this.word = word;
            this.takes = takes;
        }
    }

    /** A text cut into TOKENS. */
    private static final class Tokens {
        static final int NUMBER = 0;
        static final int HAND = 1;
        static final int WORD = 2;
        static final int LABEL = 3;
        static final int COLON = 4;
        static final int SEMICOLON = 5;
        static final int TEXT_END = 6;

        private static final int NAME_LIMIT = 8;
        private static final int DIGIT_LIMIT = 10;
        private static final int NAME_BASE = 37;

        private final int[] kinds = new int[TAPE_LIMIT];
        private final int[] places = new int[TAPE_LIMIT];
        /** The NUMBER, the HAND's number, the WORD's ACT, or 0. */
        private final int[] values = new int[TAPE_LIMIT];
        /** LABELS as numbers of base 37, so that equal ones are equal without making a String. */
        private final long[] names = new long[TAPE_LIMIT];
        int count;
        private int textLength;

        int kindAt(int i) {
            return i >= 0 && i < count ? kinds[i] : TEXT_END;
        }

        int placeAt(int i) {
            return i >= 0 && i < count ? places[i] : textLength;
        }

        int valueAt(int i) {
            return i >= 0 && i < count ? values[i] : 0;
        }

        long nameAt(int i) {
            return i >= 0 && i < count ? names[i] : 0;
        }

        /** NONE if all could be cut, else the place of what could not be. */
        int cut(byte[] bytes, int length) {
            count = 0;
            textLength = length;
            int at = 0;
            while (at < length) {
                int next = cutOne(bytes, at, length);
                if (next <= at) {
                    return at;
                }
                at = next;
            }
            return NONE;
        }

        /** The place behind what begins at a place, or NONE if nothing can begin there. */
        private int cutOne(byte[] bytes, int at, int length) {
            int first = bytes[at];
            if (first == ' ' || first == '\n') {
                return at + 1;
            }
            if (first == ':' || first == ';') {
                add(first == ':' ? COLON : SEMICOLON, at, 0, 0);
                return at + 1;
            }
            if (isLetter(first)) {
                return cutName(bytes, at, length);
            }
            return first == '-' || isDigit(first) ? cutNumber(bytes, at, length) : NONE;
        }

        private int cutName(byte[] bytes, int at, int length) {
            int to = at;
            long name = 0;
            while (to < length && (isLetter(bytes[to]) || isDigit(bytes[to]))) {
                int sign = isDigit(bytes[to]) ? bytes[to] - '0' : bytes[to] - 'a' + 10;
                name = name * NAME_BASE + sign + 1;
                to++;
            }
            if (to - at > NAME_LIMIT) {
                return NONE;
            }
            int act = actNamed(bytes, at, to);
            if (act != NONE) {
                add(WORD, at, act, 0);
            } else if (to - at == 1 && isHand(bytes[at] - 'a')) {
                add(HAND, at, bytes[at] - 'a', 0);
            } else {
                add(LABEL, at, 0, name);
            }
            return to;
        }

        private int cutNumber(byte[] bytes, int at, int length) {
            boolean below = bytes[at] == '-';
            int from = below ? at + 1 : at;
            int to = from;
            long sum = 0;
            while (to < length && isDigit(bytes[to])) {
                sum = to - from < DIGIT_LIMIT ? sum * 10 + bytes[to] - '0' : sum;
                to++;
            }
            long number = below ? -sum : sum;
            if (to == from || to - from > DIGIT_LIMIT || number != (int) number) {
                return NONE;
            }
            add(NUMBER, at, (int) number, 0);
            return to;
        }

        private void add(int kind, int place, int value, long name) {
            if (count < TAPE_LIMIT) {
                kinds[count] = kind;
                places[count] = place;
                values[count] = value;
                names[count] = name;
                count++;
            }
        }

        private static int actNamed(byte[] bytes, int from, int to) {
            for (int i = 0; i < ACTS.length; i++) {
                if (reads(bytes, from, to, ACTS[i].word)) {
                    return i;
                }
            }
            return NONE;
        }

        private static boolean reads(byte[] bytes, int from, int to, String word) {
            if (to - from != word.length()) {
                return false;
            }
            for (int i = from; i < to; i++) {
                if (bytes[i] != word.charAt(i - from)) {
                    return false;
                }
            }
            return true;
        }

        private static boolean isLetter(int sign) {
            return sign >= 'a' && sign <= 'z';
        }

        private static boolean isDigit(int sign) {
            return sign >= '0' && sign <= '9';
        }
    }

    /** The ACTS of a program, with what each takes; of a LABEL that is the number of its ACT. */
    private static final class Program {
        final int[] acts = new int[ACT_LIMIT];
        final int[] taken = new int[ACT_LIMIT * TAKES_LIMIT];
        final int[] places = new int[ACT_LIMIT];
        /** The name of the LABEL ahead of each ACT; no name is 0. */
        final long[] labels = new long[ACT_LIMIT];
        int count;

        int actLabelled(long name) {
            for (int i = 0; i < count; i++) {
                if (labels[i] == name) {
                    return i;
                }
            }
            return NONE;
        }
    }

    /** Makes a program of a text, or tells its FAULT. */
    private static final class Reader {
        private static final int NO_TOKEN = 1;
        private static final int MISPLACED = 2;
        private static final int LABEL_TWICE = 3;
        private static final int LABEL_MISSING = 4;
        private static final int TOO_MANY = 5;

        private final Tokens tokens = new Tokens();
        private int faultFound;
        int faultPlace;

        /** The kind of the FAULT, 0 without one. */
        int readText(byte[] bytes, int length, Program into) {
            faultFound = 0;
            into.count = 0;
            int uncut = tokens.cut(bytes, length);
            if (uncut != NONE) {
                faultPlace = uncut;
                return NO_TOKEN;
            }
            int at = 0;
            while (at < tokens.count && faultFound == 0) {
                at = Math.max(at + 1, readAct(at, into));
            }
            if (faultFound == 0) {
                bindLabels(into);
            }
            return faultFound;
        }

        /** The token behind the ACT that begins at one. */
        private int readAct(int at, Program into) {
            if (!mayBegin(at, into)) {
                return at + 1;
            }
            boolean labelled = tokens.kindAt(at) == Tokens.LABEL;
            int word = labelled ? at + 2 : at;
            if (labelled && !stands(at + 1, Tokens.COLON) || !stands(word, Tokens.WORD)) {
                return at + 1;
            }
            int here = into.count;
            int act = tokens.valueAt(word);
            into.labels[here] = labelled ? tokens.nameAt(at) : 0;
            into.acts[here] = act;
            into.places[here] = tokens.placeAt(word);
            into.count++;
            return readTaken(word + 1, ACTS[act].takes, here, into);
        }

        private boolean mayBegin(int at, Program into) {
            int kind = tokens.kindAt(at);
            if (kind != Tokens.LABEL && kind != Tokens.WORD) {
                return refuse(MISPLACED, at);
            }
            boolean labels = kind == Tokens.LABEL && tokens.kindAt(at + 1) == Tokens.COLON;
            if (labels && into.actLabelled(tokens.nameAt(at)) != NONE) {
                return refuse(LABEL_TWICE, at);
            }
            return into.count < ACT_LIMIT || refuse(TOO_MANY, at);
        }

        private int readTaken(int from, String takes, int here, Program into) {
            int at = from;
            for (int i = 0; i < takes.length() && i < TAKES_LIMIT; i++) {
                if (!stands(at, tokenFor(takes.charAt(i)))) {
                    return at + 1;
                }
                // a LABEL's ACT may come later: its token is kept till all ACTS are read
                boolean isLabel = tokens.kindAt(at) == Tokens.LABEL;
                into.taken[here * TAKES_LIMIT + i] = isLabel ? at : tokens.valueAt(at);
                at++;
            }
            stands(at, Tokens.SEMICOLON);
            return at + 1;
        }

        private static int tokenFor(char taken) {
            return taken == TAKES_HAND ? Tokens.HAND : taken == TAKES_NUMBER ? Tokens.NUMBER : Tokens.LABEL;
        }

        private void bindLabels(Program into) {
            for (int i = 0; i < into.count && faultFound == 0; i++) {
                String takes = ACTS[into.acts[i]].takes;
                for (int j = 0; j < takes.length() && j < TAKES_LIMIT; j++) {
                    if (tokenFor(takes.charAt(j)) == Tokens.LABEL) {
                        bind(into, i * TAKES_LIMIT + j);
                    }
                }
            }
        }

        private void bind(Program into, int index) {
            int token = into.taken[index];
            int target = into.actLabelled(tokens.nameAt(token));
            if (target == NONE) {
                refuse(LABEL_MISSING, token);
            } else {
                into.taken[index] = target;
            }
        }

        private boolean stands(int at, int kind) {
            return tokens.kindAt(at) == kind || refuse(MISPLACED, at);
        }

        private boolean refuse(int kind, int token) {
            faultFound = kind;
            faultPlace = tokens.placeAt(token);
            return false;
        }
    }

    /**
     * Both HALVES, the ROOTS, and how THINGS move. A word is a tag and a value; the value of a
     * THING's word is its address: half times SIZE, and its PLACE. ROOTS and the SLOTS of all
     * THINGS that were MADE since the TURN only have addresses of the PRESENT half; other SLOTS
     * may have one of the OLD half until they are PASSED, also that of a THING that went on.
     */
    private static final class Memory {
        static final int NUMBER = 0;
        static final int NOBODY = 1;
        static final int THING = 2;
        static final int ROW_HEAD = 3;
        static final int PLAIN_HEAD = 4;
        private static final int SECOND_HEAD = 5;
        /** The first word of a THING that left the OLD half; its value is the new address. */
        private static final int WENT_ON = 6;

        static final int HEAD_WORDS = 2;
        static final int SLOT_LIMIT = 40;

        // indices of the counts are the numbers that memory(what) has for them;
        // those of SPENT, LATE and FULL are their kinds as refusals, too
        private static final int FIRST_COUNT = 4;
        private static final int TURNS = 4;
        private static final int MOVED = 5;
        private static final int WORDS_PASSED = 6;
        private static final int MADE = 7;
        static final int SPENT = 8;
        private static final int LATE = 9;
        private static final int FULL = 10;
        private static final int MOST_PASSED = 11;
        private static final int LATEST_MOVED = 12;
        private static final int COUNTS_END = 13;

        final int size;
        final int k;
        final int[] tags;
        final int[] values;
        final int[] rootTags = new int[HANDS + STACK_LIMIT];
        final int[] rootValues = new int[HANDS + STACK_LIMIT];
        int height;
        int present;
        int floor;
        int passed;
        int roof;
        private final int[] counts = new int[COUNTS_END];

        Memory(int size, int k) {
            this.size = size;
            this.k = k;
            tags = new int[2 * size];
            values = new int[2 * size];
            roof = size;
        }

        int count(int what) {
            return what >= FIRST_COUNT && what < COUNTS_END ? counts[what] : NONE;
        }

        int roots() {
            return HANDS + height;
        }

        /** Where the THING of an address lies by now. */
        int home(int address) {
            return tags[address] == WENT_ON ? values[address] : address;
        }

        int slotsOf(int address) {
            return values[home(address)];
        }

        boolean isRow(int address) {
            return tags[home(address)] == ROW_HEAD;
        }

        private int halfOf(int address) {
            return address < size ? 0 : 1;
        }

        /** The address of a SLOT of the THING that a HAND has, NONE if there is none such. */
        int slotOf(int r, int i) {
            if (rootTags[r] != THING || i < 0 || i >= slotsOf(rootValues[r])) {
                return NONE;
            }
            return home(rootValues[r]) + HEAD_WORDS + i;
        }

        int aboutRoot(int root, int what) {
            if (what == 2) {
                boolean isThing = rootTags[root] == THING;
                return isThing ? placeOf(home(rootValues[root])) : NONE;
            }
            return aboutWord(rootTags[root], rootValues[root], what);
        }

        int aboutSlot(int at, int what) {
            if (what == 2) {
                return tags[at] == THING ? halfOf(home(values[at])) : NONE;
            }
            return aboutWord(tags[at], values[at], what);
        }

        private int aboutWord(int tag, int value, int what) {
            if (what == 0) {
                return kindOf(tag, value);
            }
            if (what == 1) {
                return tag == THING ? slotsOf(value) : tag == NUMBER ? value : 0;
            }
            return NONE;
        }

        int kindOf(int tag, int value) {
            return tag != THING ? tag : isRow(value) ? 2 : 3;
        }

        private int placeOf(int address) {
            return address - halfOf(address) * size;
        }

        /** MOVES the THING of the OLD half at an address: its new address, NONE if that is SPENT. */
        private int move(int from) {
            int words = values[from] + HEAD_WORDS;
            if (floor + words > roof) {
                counts[SPENT]++;
                return NONE;
            }
            int to = present * size + floor;
            for (int i = 0; i < words; i++) {
                tags[to + i] = tags[from + i];
                values[to + i] = values[from + i];
            }
            tags[from] = WENT_ON;
            values[from] = to;
            floor += words;
            counts[MOVED]++;
            return to;
        }

        /** Whether a word of a half or of the ROOTS has no THING of the OLD half, or no more. */
        boolean bring(int[] tagRow, int[] valueRow, int at) {
            if (tagRow[at] != THING) {
                return true;
            }
            int home = home(valueRow[at]);
            int address = halfOf(home) == present ? home : move(home);
            if (address == NONE) {
                return false;
            }
            valueRow[at] = address;
            return true;
        }

        /** How many words were PASSED; fewer than asked with PASSED below FLOOR means SPENT. */
        int passWords(int most) {
            int start = passed;
            while (passed - start < most && passed < floor && bring(tags, values, present * size + passed)) {
                passed++;
            }
            counts[WORDS_PASSED] += passed - start;
            return passed - start;
        }

        /** Only where PASSED is FLOOR. */
        void turnOver() {
            int before = counts[MOVED];
            present = 1 - present;
            floor = 0;
            passed = 0;
            roof = size;
            // never SPENT: the ROOTS' THINGS had room in a half of the same SIZE
            for (int i = 0; i < roots(); i++) {
                bring(rootTags, rootValues, i);
            }
            counts[TURNS]++;
            counts[LATEST_MOVED] = counts[MOVED] - before;
        }

        /** All of a making but its end: the kind of the refusal, 0 if there is room at ROOF. */
        int makeRoom(int words) {
            int count = passWords(k * words);
            counts[MOST_PASSED] = Math.max(counts[MOST_PASSED], count);
            if (count < k * words && passed < floor) {
                return SPENT;
            }
            if (roof - floor >= words) {
                return 0;
            }
            if (passed < floor) {
                counts[LATE]++;
                return LATE;
            }
            turnOver();
            if (roof - floor >= words) {
                return 0;
            }
            counts[FULL]++;
            return FULL;
        }

        /** Only where there is room: the address of the new THING. */
        int lay(int slots, int head) {
            roof -= slots + HEAD_WORDS;
            int at = present * size + roof;
            tags[at] = head;
            values[at] = slots;
            tags[at + 1] = SECOND_HEAD;
            values[at + 1] = 0;
            for (int i = at + HEAD_WORDS; i < at + HEAD_WORDS + slots; i++) {
                tags[i] = head == ROW_HEAD ? NOBODY : NUMBER;
                values[i] = 0;
            }
            counts[MADE]++;
            return at;
        }
    }

    /** Does ACTS 0 to 19; each answers the kind of its refusal, 0 if it is done. */
    private static final class Doer {
        static final int NO_NUMBER = 1;
        private static final int NO_THING = 2;
        private static final int NO_SLOT = 3;
        private static final int WRONG_LENGTH = 4;
        private static final int PLAIN_TAKES_NUMBERS = 5;
        private static final int STACK_ENDS = 6;

        private final Memory memory;

        Doer(Memory memory) {
            this.memory = memory;
        }

        int perform(Act act, int x, int y, int z) {
            switch (act) {
                case SET:
                    return give(x, Memory.NUMBER, y);
                case COPY:
                    return give(x, memory.rootTags[y], memory.rootValues[y]);
                case NOTHING:
                    return give(x, Memory.NOBODY, 0);
                case ROW:
                    return makeThing(x, y, Memory.ROW_HEAD);
                case PLAIN:
                    return makeThing(x, y, Memory.PLAIN_HEAD);
                case ROWS:
                    return hasNumber(y) ? makeThing(x, number(y), Memory.ROW_HEAD) : NO_NUMBER;
                case PLAINS:
                    return hasNumber(y) ? makeThing(x, number(y), Memory.PLAIN_HEAD) : NO_NUMBER;
                case GET:
                    return readSlot(x, y, z);
                case GETS:
                    return hasNumber(z) ? readSlot(x, y, number(z)) : NO_NUMBER;
                case PUT:
                    return writeSlot(x, y, z);
                case PUTS:
                    return hasNumber(y) ? writeSlot(x, number(y), z) : NO_NUMBER;
                case SIZE:
                    return hasThing(y) ? give(x, Memory.NUMBER, memory.slotsOf(memory.rootValues[y])) : NO_THING;
                case KIND:
                    return give(x, Memory.NUMBER, memory.kindOf(memory.rootTags[y], memory.rootValues[y]));
                case ADD:
                case SUB:
                case MUL:
                case LESS:
                    return hasNumber(y) && hasNumber(z) ? give(x, Memory.NUMBER, reckon(act, y, z)) : NO_NUMBER;
                case SAME:
                    return give(x, Memory.NUMBER, haveSame(y, z) ? 1 : 0);
                case PUSH:
                    return pushHand(x);
                case POP:
                    return popHand(x);
                default:
                    return 0;
            }
        }

        boolean hasNumber(int r) {
            return memory.rootTags[r] == Memory.NUMBER;
        }

        int number(int r) {
            return memory.rootValues[r];
        }

        private boolean hasThing(int r) {
            return memory.rootTags[r] == Memory.THING;
        }

        private int give(int r, int tag, int value) {
            memory.rootTags[r] = tag;
            memory.rootValues[r] = value;
            return 0;
        }

        private int makeThing(int r, int slots, int head) {
            if (slots < 0 || slots > Memory.SLOT_LIMIT) {
                return WRONG_LENGTH;
            }
            int refusal = memory.makeRoom(slots + Memory.HEAD_WORDS);
            return refusal != 0 ? refusal : give(r, Memory.THING, memory.lay(slots, head));
        }

        private int readSlot(int r, int s, int i) {
            if (!hasThing(s)) {
                return NO_THING;
            }
            int at = memory.slotOf(s, i);
            if (at == NONE) {
                return NO_SLOT;
            }
            boolean isRead = memory.bring(memory.tags, memory.values, at);
            return isRead ? give(r, memory.tags[at], memory.values[at]) : Memory.SPENT;
        }

        private int writeSlot(int r, int i, int s) {
            if (!hasThing(r)) {
                return NO_THING;
            }
            int at = memory.slotOf(r, i);
            if (at == NONE) {
                return NO_SLOT;
            }
            if (!memory.isRow(memory.rootValues[r]) && !hasNumber(s)) {
                return PLAIN_TAKES_NUMBERS;
            }
            memory.tags[at] = memory.rootTags[s];
            memory.values[at] = memory.rootValues[s];
            return 0;
        }

        private int reckon(Act act, int s, int t) {
            switch (act) {
                case ADD:
                    return number(s) + number(t);
                case SUB:
                    return number(s) - number(t);
                case MUL:
                    return number(s) * number(t);
                default:
                    return number(s) < number(t) ? 1 : 0;
            }
        }

        private boolean haveSame(int s, int t) {
            return memory.rootTags[s] == memory.rootTags[t] && memory.rootValues[s] == memory.rootValues[t];
        }

        private int pushHand(int r) {
            if (memory.height >= STACK_LIMIT) {
                return STACK_ENDS;
            }
            memory.height++;
            return give(memory.roots() - 1, memory.rootTags[r], memory.rootValues[r]);
        }

        private int popHand(int r) {
            if (memory.height <= 0) {
                return STACK_ENDS;
            }
            int top = memory.roots() - 1;
            memory.height--;
            return give(r, memory.rootTags[top], memory.rootValues[top]);
        }
    }

    /** A run of a program. */
    private static final class Runner {
        static final int ABSENT = 0;
        private static final int GOING = 1;
        private static final int ENDED = 2;
        private static final int REFUSED = 3;

        private static final int CALL_LIMIT = 30;
        private static final int SAID_LIMIT = 300;
        private static final int TOO_MANY_CALLS = 7;

        private final Doer doer;
        private Program program;
        int state;
        int refusal;
        private int next;
        int done;
        private final int[] calls = new int[CALL_LIMIT];
        int openCalls;
        final int[] said = new int[SAID_LIMIT];
        int saidCount;

        Runner(Doer doer, Program program) {
            this.doer = doer;
            this.program = program;
        }

        void forget() {
            state = ABSENT;
            refusal = 0;
            next = 0;
            done = 0;
            openCalls = 0;
            saidCount = 0;
        }

        void start(Program started) {
            forget();
            program = started;
            goOnAt(0);
        }

        boolean hasSaid(int i) {
            return i >= 0 && i < saidCount && i < SAID_LIMIT;
        }

        private boolean hasNext() {
            return state == GOING || state == REFUSED;
        }

        int nextAct() {
            return hasNext() ? next : NONE;
        }

        int nextPlace() {
            return hasNext() ? program.places[next] : NONE;
        }

        /** Whether an ACT was done. */
        boolean step() {
            if (!hasNext()) {
                return false;
            }
            int op = program.acts[next];
            int[] taken = program.taken;
            int index = next * TAKES_LIMIT;
            if (op > LAST_ACT_OUTSIDE) {
                refusal = steer(ACTS[op], taken[index], taken[index + 1]);
            } else {
                refusal = doer.perform(ACTS[op], taken[index], taken[index + 1], taken[index + 2]);
                if (refusal == 0) {
                    goOnAt(next + 1);
                }
            }
            if (refusal != 0) {
                state = REFUSED;
                return false;
            }
            done++;
            return true;
        }

        /** Does the ACTS that only a run can do. */
        private int steer(Act act, int x, int y) {
            switch (act) {
                case SAY:
                    return say(x);
                case JUMP:
                    return goOnAt(x);
                case ZERO:
                    return goOnAt(doer.hasNumber(x) && doer.number(x) == 0 ? y : next + 1);
                case CALL:
                    return openCall(x);
                case BACK:
                    return goBack();
                default:
                    return goOnAt(program.count);
            }
        }

        private int goOnAt(int act) {
            next = act;
            state = act < program.count ? GOING : ENDED;
            return 0;
        }

        private int say(int r) {
            if (!doer.hasNumber(r)) {
                return Doer.NO_NUMBER;
            }
            // below 0 only far behind the 512th call, when the count has wrapped round
            if (saidCount >= 0 && saidCount < SAID_LIMIT) {
                said[saidCount] = doer.number(r);
            }
            saidCount++;
            return goOnAt(next + 1);
        }

        private int openCall(int act) {
            if (openCalls >= CALL_LIMIT) {
                return TOO_MANY_CALLS;
            }
            calls[openCalls] = next + 1;
            openCalls++;
            return goOnAt(act);
        }

        private int goBack() {
            if (openCalls <= 0) {
                return goOnAt(program.count);
            }
            openCalls--;
            return goOnAt(calls[openCalls]);
        }
    }

    /** THINGS in the order in which they are met, each met once. */
    private static final class Walk {
        private final Memory memory;
        private final int[] found;
        /** By address: which THING in the order is there, from 1 on; 0 for none. */
        private final int[] numbers;
        int count;

        Walk(Memory memory) {
            this.memory = memory;
            found = new int[2 * memory.size];
            numbers = new int[2 * memory.size];
        }

        void findFromRoots() {
            clear();
            for (int i = 0; i < memory.roots(); i++) {
                meet(memory.rootTags[i], memory.rootValues[i]);
            }
            for (int i = 0; i < count && i < found.length; i++) {
                int first = found[i] + Memory.HEAD_WORDS;
                int slots = memory.slotsOf(found[i]);
                for (int at = first; at < first + slots; at++) {
                    meet(memory.tags[at], memory.values[at]);
                }
            }
        }

        int words() {
            int sum = 0;
            for (int i = 0; i < count; i++) {
                sum += memory.slotsOf(found[i]) + Memory.HEAD_WORDS;
            }
            return sum;
        }

        void write(int r, Text text) {
            clear();
            writeWord(memory.rootTags[r], memory.rootValues[r], text);
            for (int i = 0; i < count && i < found.length; i++) {
                text.add(' ');
                writeThing(found[i], text);
            }
        }

        private void writeThing(int address, Text text) {
            boolean isRow = memory.isRow(address);
            text.add(isRow ? '[' : '{');
            int first = address + Memory.HEAD_WORDS;
            int slots = memory.slotsOf(address);
            for (int at = first; at < first + slots; at++) {
                if (at > first) {
                    text.add(' ');
                }
                writeWord(memory.tags[at], memory.values[at], text);
            }
            text.add(isRow ? ']' : '}');
        }

        private void writeWord(int tag, int value, Text text) {
            if (tag == Memory.NUMBER) {
                text.addNumber(value);
            } else if (tag == Memory.THING) {
                text.add('#');
                text.addNumber(meet(tag, value));
            } else {
                text.add('.');
            }
        }

        private void clear() {
            for (int i = 0; i < count; i++) {
                numbers[found[i]] = 0;
            }
            count = 0;
        }

        /** The THING's number in the order; 0 of what is no THING. */
        private int meet(int tag, int value) {
            if (tag != Memory.THING) {
                return 0;
            }
            int address = memory.home(value);
            if (numbers[address] == 0 && count < found.length) {
                found[count] = address;
                count++;
                numbers[address] = count;
            }
            return numbers[address];
        }
    }

    /** The first bytes of what is written. */
    private static final class Text {
        private static final int TEXT_LIMIT = 600;
        private static final long MOST_TENS = 1000000000L;

        final byte[] bytes = new byte[TEXT_LIMIT];
        int length;

        void add(int sign) {
            if (length < TEXT_LIMIT) {
                bytes[length] = (byte) sign;
                length++;
            }
        }

        void addNumber(int number) {
            // a long, because the least int has no opposite among ints
            long rest = number;
            if (rest < 0) {
                add('-');
                rest = -rest;
            }
            for (long tens = MOST_TENS; tens > 0; tens /= 10) {
                if (rest >= tens || tens == 1) {
                    add((int) ('0' + rest / tens % 10));
                }
            }
        }
    }
}
