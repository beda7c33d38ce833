import java.util.ArrayDeque;
import java.util.ArrayList;
import java.util.Arrays;
import java.util.HashMap;
import java.util.LinkedHashMap;
import java.util.LinkedHashSet;
import java.util.List;
import java.util.Map;
import java.util.NoSuchElementException;
import java.util.regex.Matcher;
import java.util.regex.Pattern;

/**
 * The document told a second time, with objects for THINGS and none of the class's own code: a WORD
 * is an Integer, null for NOBODY, or a Thing. Slow and plain, to hold the class against.
 */
final class Model {
    static final class Thing {
        boolean row;
        Object[] slots;
        int half;
        int place;

        int words() {
            return slots.length + 2;
        }
    }

    static final class Refused extends Exception {
        final int kind;

        Refused(int kind) {
            this.kind = kind;
        }
    }

    static final class Fault extends Exception {
        final int kind;
        final int place;

        Fault(int kind, int place) {
            this.kind = kind;
            this.place = place;
        }
    }

    static final class Token {
        final String text;
        final int place;

        Token(String text, int place) {
            this.text = text;
            this.place = place;
        }
    }

    static final class Line {
        int op;
        int place;
        List<Token> taken = new ArrayList<>();
    }

    static final List<String> WORDS = Arrays.asList("set copy none row plain rows plains get gets put puts size"
            .concat(" kind add sub mul less same push pop say jump zero call back stop").split(" "));
    static final String[] TAKES = {"RN", "RS", "R", "RN", "RN", "RS", "RS", "RSN", "RST", "RNS", "RST", "RS", "RS",
        "RST", "RST", "RST", "RST", "RST", "R", "R", "R", "L", "RL", "L", "", ""};

    final int size;
    final int k;
    final StringBuilder tape = new StringBuilder();
    final Object[] hands = new Object[8];
    final List<Object> stack = new ArrayList<>();
    /** The words of the PRESENT half below FLOOR: the THING each is of, by its place. */
    final List<Thing> movedWords = new ArrayList<>();
    int present;
    int passed;
    int roof;
    final int[] counts = new int[13];
    List<Line> lines;
    Map<String, Integer> labels;
    int faultKind;
    boolean hasRun;
    boolean refused;
    int refusedKind;
    int next;
    int done;
    final ArrayDeque<Integer> calls = new ArrayDeque<>();
    final List<Integer> saidNumbers = new ArrayList<>();
    String text = "";

    Model(int size, int k) {
        this.size = size < 16 ? 16 : size > 1200 ? 1200 : size;
        this.k = k < 1 ? 1 : k > 6 ? 6 : k;
        Arrays.fill(hands, 0);
        roof = this.size;
    }

    int floor() {
        return movedWords.size();
    }

    // ---- moving

    void move(Thing thing) throws Refused {
        if (floor() + thing.words() > roof) {
            counts[8]++;
            throw new Refused(8);
        }
        thing.half = present;
        thing.place = floor();
        for (int i = 0; i < thing.words(); i++) {
            movedWords.add(thing);
        }
        counts[5]++;
    }

    void moveIfOld(Object word) throws Refused {
        if (word instanceof Thing && ((Thing) word).half != present) {
            move((Thing) word);
        }
    }

    void passOne() throws Refused {
        Thing thing = movedWords.get(passed);
        int slot = passed - thing.place - 2;
        if (slot >= 0) {
            moveIfOld(thing.slots[slot]);
        }
        passed++;
        counts[6]++;
    }

    void turnNow() throws Refused {
        present = 1 - present;
        movedWords.clear();
        passed = 0;
        roof = size;
        counts[4]++;
        int before = counts[5];
        for (Object word : roots()) {
            moveIfOld(word);
        }
        counts[12] = counts[5] - before;
    }

    List<Object> roots() {
        List<Object> all = new ArrayList<>(Arrays.asList(hands));
        all.addAll(stack);
        return all;
    }

    Thing make(int n, boolean row) throws Refused {
        int w = n + 2;
        int count = 0;
        try {
            while (count < k * w && passed < floor()) {
                passOne();
                count++;
            }
        } finally {
            counts[11] = Math.max(counts[11], count);
        }
        if (roof - floor() < w) {
            if (passed < floor()) {
                counts[9]++;
                throw new Refused(9);
            }
            turnNow();
            if (roof - floor() < w) {
                counts[10]++;
                throw new Refused(10);
            }
        }
        roof -= w;
        Thing thing = new Thing();
        thing.row = row;
        thing.slots = new Object[n];
        Arrays.fill(thing.slots, row ? null : (Object) 0);
        thing.half = present;
        thing.place = roof;
        counts[7]++;
        return thing;
    }

    // ---- acts

    int num(int r) throws Refused {
        if (!(hands[r] instanceof Integer)) {
            throw new Refused(1);
        }
        return (Integer) hands[r];
    }

    Thing thing(int r) throws Refused {
        if (!(hands[r] instanceof Thing)) {
            throw new Refused(2);
        }
        return (Thing) hands[r];
    }

    void makeAct(int r, int n, boolean row) throws Refused {
        if (n < 0 || n > 40) {
            throw new Refused(4);
        }
        hands[r] = make(n, row);
    }

    void getAct(int r, int s, int n) throws Refused {
        Thing from = thing(s);
        if (n < 0 || n >= from.slots.length) {
            throw new Refused(3);
        }
        moveIfOld(from.slots[n]);
        hands[r] = from.slots[n];
    }

    void putAct(int r, int n, int s) throws Refused {
        Thing to = thing(r);
        if (n < 0 || n >= to.slots.length) {
            throw new Refused(3);
        }
        if (!to.row && !(hands[s] instanceof Integer)) {
            throw new Refused(5);
        }
        to.slots[n] = hands[s];
    }

    void numbersAct(int op, int r, int s, int t) throws Refused {
        int a = num(s);
        int b = num(t);
        hands[r] = op == 13 ? a + b : op == 14 ? a - b : op == 15 ? a * b : a < b ? 1 : 0;
    }

    static boolean same(Object a, Object b) {
        return a == b || a instanceof Integer && a.equals(b);
    }

    void perform(int op, int x, int y, int z) throws Refused {
        if (op == 0) {
            hands[x] = y;
        } else if (op == 1) {
            hands[x] = hands[y];
        } else if (op == 2) {
            hands[x] = null;
        } else if (op == 3 || op == 4) {
            makeAct(x, y, op == 3);
        } else if (op == 5 || op == 6) {
            makeAct(x, num(y), op == 5);
        } else if (op == 7) {
            getAct(x, y, z);
        } else if (op == 8) {
            getAct(x, y, num(z));
        } else if (op == 9) {
            putAct(x, y, z);
        } else if (op == 10) {
            putAct(x, num(y), z);
        } else if (op == 11) {
            hands[x] = thing(y).slots.length;
        } else if (op == 12) {
            hands[x] = kind(hands[y]);
        } else if (op <= 16) {
            numbersAct(op, x, y, z);
        } else if (op == 17) {
            hands[x] = same(hands[y], hands[z]) ? 1 : 0;
        } else if (op == 18) {
            if (stack.size() == 50) {
                throw new Refused(6);
            }
            stack.add(hands[x]);
        } else {
            if (stack.isEmpty()) {
                throw new Refused(6);
            }
            hands[x] = stack.remove(stack.size() - 1);
        }
    }

    int act(int op, int x, int y, int z) {
        if (op < 0 || op > 19) {
            return -1;
        }
        int[] given = {x, y, z};
        for (int i = 0; i < TAKES[op].length(); i++) {
            if (TAKES[op].charAt(i) != 'N' && (given[i] < 0 || given[i] > 7)) {
                return -1;
            }
        }
        try {
            perform(op, x, y, z);
            return 0;
        } catch (Refused e) {
            return e.kind;
        }
    }

    // ---- texts

    int feed(int... numbers) {
        if (tape.length() + 20 > 2000) {
            return -1;
        }
        for (int number : numbers) {
            for (int i = 3; i >= 0; i--) {
                tape.append((char) (number >>> 8 * i & 255));
            }
        }
        return tape.length();
    }

    int end(int n) {
        if (n < 0 || n > tape.length()) {
            return -1;
        }
        tape.setLength(n);
        return n;
    }

    static List<Token> cut(String source) throws Fault {
        Matcher m = Pattern.compile("[ \n]+|[:;]|[a-z][a-z0-9]*|-?[0-9]+").matcher(source);
        List<Token> tokens = new ArrayList<>();
        int at = 0;
        while (at < source.length()) {
            m.region(at, source.length());
            if (!m.lookingAt()) {
                throw new Fault(1, at);
            }
            String token = m.group();
            if (Character.isLowerCase(token.charAt(0)) && token.length() > 8) {
                throw new Fault(1, at);
            }
            if (token.matches("-?[0-9]+")) {
                if (token.replace("-", "").length() > 10 || Long.parseLong(token) != (int) Long.parseLong(token)) {
                    throw new Fault(1, at);
                }
            }
            if (token.charAt(0) != ' ' && token.charAt(0) != '\n') {
                tokens.add(new Token(token, at));
            }
            at = m.end();
        }
        return tokens;
    }

    static char sort(List<Token> tokens, int i) {
        if (i >= tokens.size()) {
            return '$';
        }
        String token = tokens.get(i).text;
        if (token.equals(":") || token.equals(";")) {
            return token.charAt(0);
        }
        if (!Character.isLowerCase(token.charAt(0))) {
            return 'N';
        }
        return WORDS.contains(token) ? 'W' : token.matches("[a-h]") ? 'R' : 'L';
    }

    void parse(String source) throws Fault {
        List<Token> tokens = cut(source);
        List<Line> found = new ArrayList<>();
        Map<String, Integer> ahead = new HashMap<>();
        int i = 0;
        while (i < tokens.size()) {
            char first = sort(tokens, i);
            if (first != 'W' && first != 'L') {
                throw new Fault(2, tokens.get(i).place);
            }
            if (first == 'L' && sort(tokens, i + 1) == ':' && ahead.containsKey(tokens.get(i).text)) {
                throw new Fault(3, tokens.get(i).place);
            }
            if (found.size() == 150) {
                throw new Fault(5, tokens.get(i).place);
            }
            if (first == 'L') {
                ahead.put(tokens.get(i).text, found.size());
                need(tokens, i + 1, ':', source);
                i += 2;
            }
            need(tokens, i, 'W', source);
            Line line = new Line();
            line.op = WORDS.indexOf(tokens.get(i).text);
            line.place = tokens.get(i).place;
            i++;
            for (char taken : TAKES[line.op].toCharArray()) {
                need(tokens, i, taken == 'S' || taken == 'T' ? 'R' : taken, source);
                line.taken.add(tokens.get(i));
                i++;
            }
            need(tokens, i, ';', source);
            i++;
            found.add(line);
        }
        for (Line line : found) {
            for (Token taken : line.taken) {
                if (sort(List.of(taken), 0) == 'L' && !ahead.containsKey(taken.text)) {
                    throw new Fault(4, taken.place);
                }
            }
        }
        lines = found;
        labels = ahead;
    }

    static void need(List<Token> tokens, int i, char sort, String source) throws Fault {
        if (sort(tokens, i) != sort) {
            throw new Fault(2, i < tokens.size() ? tokens.get(i).place : source.length());
        }
    }

    int program() {
        String source = tape.toString();
        tape.setLength(0);
        try {
            parse(source);
        } catch (Fault e) {
            faultKind = e.kind;
            return -1 - e.place;
        }
        faultKind = 0;
        clearRun();
        return lines.size();
    }

    int fault() {
        return faultKind;
    }

    // ---- the run

    void clearRun() {
        hasRun = false;
        refused = false;
        refusedKind = 0;
        next = 0;
        done = 0;
        calls.clear();
        saidNumbers.clear();
    }

    void begin() {
        if (lines == null) {
            throw new IllegalStateException();
        }
        clearRun();
        hasRun = true;
    }

    int run(int n) {
        if (n < 0 || n > 2000) {
            throw new IllegalArgumentException();
        }
        if (!hasRun) {
            throw new IllegalStateException();
        }
        int count = 0;
        while (count < n && next < lines.size()) {
            try {
                next = doLine(lines.get(next));
            } catch (Refused e) {
                refused = true;
                refusedKind = e.kind;
                break;
            }
            refused = false;
            refusedKind = 0;
            done++;
            count++;
        }
        return count;
    }

    int operand(Line line, int i) {
        if (i >= line.taken.size()) {
            return 99;
        }
        String token = line.taken.get(i).text;
        char sort = sort(List.of(line.taken.get(i)), 0);
        return sort == 'N' ? Integer.parseInt(token) : sort == 'R' ? token.charAt(0) - 'a' : labels.get(token);
    }

    int doLine(Line line) throws Refused {
        int x = operand(line, 0);
        int y = operand(line, 1);
        switch (line.op) {
            case 20:
                saidNumbers.add(num(x));
                return next + 1;
            case 21:
                return x;
            case 22:
                return same(hands[x], 0) ? y : next + 1;
            case 23:
                if (calls.size() == 30) {
                    throw new Refused(7);
                }
                calls.push(next + 1);
                return x;
            case 24:
                return calls.isEmpty() ? lines.size() : calls.pop();
            case 25:
                return lines.size();
            default:
                perform(line.op, x, y, operand(line, 2));
                return next + 1;
        }
    }

    int about(int what) {
        int state = !hasRun ? 0 : next >= lines.size() ? 2 : refused ? 3 : 1;
        boolean goesOn = state == 1 || state == 3;
        switch (what) {
            case 0:
                return state;
            case 1:
                return refusedKind;
            case 2:
                return goesOn ? next : -1;
            case 3:
                return goesOn ? lines.get(next).place : -1;
            case 4:
                return done;
            case 5:
                return calls.size();
            case 6:
                return saidNumbers.size();
            default:
                return -1;
        }
    }

    int said(int i) {
        if (i < 0 || i >= saidNumbers.size() || i >= 300) {
            throw new NoSuchElementException();
        }
        return saidNumbers.get(i);
    }

    // ---- looking

    int pass(int n) {
        if (n < 0 || n > 1000) {
            return -1;
        }
        int count = 0;
        try {
            while (count < n && passed < floor()) {
                passOne();
                count++;
            }
        } catch (Refused e) {
            return count;
        }
        return count;
    }

    boolean turn() {
        if (passed != floor()) {
            return false;
        }
        try {
            turnNow();
        } catch (Refused e) {
            throw new AssertionError("the ROOTS had no room");
        }
        return true;
    }

    int memory(int what) {
        int[] now = {floor(), passed, roof, present};
        if (what >= 0 && what < 4) {
            return now[what];
        }
        return what == 13 ? size : what == 14 ? k : what >= 4 && what < 13 ? counts[what] : -1;
    }

    static int kind(Object word) {
        return word == null ? 1 : word instanceof Integer ? 0 : ((Thing) word).row ? 2 : 3;
    }

    static int look(Object word, int what, boolean half) {
        if (what == 0) {
            return kind(word);
        }
        if (what == 1) {
            return word == null ? 0 : word instanceof Integer ? (Integer) word : ((Thing) word).slots.length;
        }
        if (what == 2 && word instanceof Thing) {
            return half ? ((Thing) word).half : ((Thing) word).place;
        }
        return -1;
    }

    int hand(int r, int what) {
        return r < 0 || r > 7 ? -1 : look(hands[r], what, false);
    }

    int stack(int i, int what) {
        return i < 0 || i >= stack.size() ? -1 : look(stack.get(i), what, false);
    }

    int slot(int r, int i, int what) {
        if (r < 0 || r > 7 || !(hands[r] instanceof Thing)) {
            return -1;
        }
        Object[] slots = ((Thing) hands[r]).slots;
        return i < 0 || i >= slots.length ? -1 : look(slots[i], what, true);
    }

    int reach(int what) {
        LinkedHashSet<Thing> all = new LinkedHashSet<>();
        ArrayDeque<Object> open = new ArrayDeque<>();
        roots().stream().filter(word -> word instanceof Thing).forEach(open::add);
        while (!open.isEmpty()) {
            Thing thing = (Thing) open.pop();
            if (all.add(thing)) {
                Arrays.stream(thing.slots).filter(word -> word instanceof Thing).forEach(open::add);
            }
        }
        return what == 0 ? all.size() : what == 1 ? all.stream().mapToInt(Thing::words).sum() : -1;
    }

    int show(int r) {
        if (r < 0 || r > 7) {
            return -1;
        }
        Map<Thing, Integer> numbers = new LinkedHashMap<>();
        List<Thing> order = new ArrayList<>();
        StringBuilder out = new StringBuilder(name(hands[r], numbers, order));
        for (int i = 0; i < order.size(); i++) {
            Thing thing = order.get(i);
            List<String> parts = new ArrayList<>();
            for (Object word : thing.slots) {
                parts.add(name(word, numbers, order));
            }
            String inner = String.join(" ", parts);
            out.append(thing.row ? " [" + inner + "]" : " {" + inner + "}");
        }
        text = out.substring(0, Math.min(600, out.length()));
        return text.length();
    }

    static String name(Object word, Map<Thing, Integer> numbers, List<Thing> order) {
        if (word == null || word instanceof Integer) {
            return word == null ? "." : word.toString();
        }
        Thing thing = (Thing) word;
        if (!numbers.containsKey(thing)) {
            order.add(thing);
            numbers.put(thing, order.size());
        }
        return "#" + numbers.get(thing);
    }

    int letter(int i) {
        return i < 0 || i >= text.length() ? -1 : text.charAt(i);
    }
}
