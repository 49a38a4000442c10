import java.util.ArrayList;
import java.util.Arrays;
import java.util.HashSet;
import java.util.List;
import java.util.Map;
import java.util.NoSuchElementException;
import java.util.Set;
import java.util.TreeMap;

/**
 * Long runs of drawn calls, each answer held against a model that knows no short cut: it takes texts
 * apart by tokens, keeps LINES in a map, finds its own tree, and lists all STATES.
 */
public final class ModelTest {
    private static final int RUNS = 2200;
    /** Of each run; with those of the last step they stay below the 512 that an object is used for. */
    private static final int CALLS = 390;
    private static final long MOST_LISTED = 70000;

    private static long dice = 1;
    private static int wrong = 0;
    private static final int[] asked = new int[40];

    private static int die(int sides) {
        dice = dice * 6364136223846793005L + 1442695040888963407L;
        return (int) ((dice >>> 33) % sides);
    }

    private interface Call {
        long answer();
    }

    /** An answer, or how the call threw. */
    private static String told(Call call) {
        try {
            return Long.toString(call.answer());
        } catch (RuntimeException e) {
            return e.getClass().getSimpleName();
        }
    }

    public static void main(String[] args) {
        for (int run = 1; run <= RUNS && wrong < 10; run++) {
            dice = run * 7919L;
            new Run(run).go();
        }
        for (int i = 0; i < 29; i++) {
            if (asked[i] == 0) {
                wrong++;
                System.out.println("no run asked call " + i);
            }
        }
        System.out.println(wrong == 0 ? "ModelTest: the model agrees" : "ModelTest: " + wrong + " wrong");
        if (wrong != 0) {
            System.exit(1);
        }
    }

    private static final class Run {
        private final int number;
        private final TurnBoard board = new TurnBoard();
        private final Model model = new Model();
        private final List<String> calls = new ArrayList<>();

        Run(int number) {
            this.number = number;
        }

        private void check(int which, String name, Call real, Call due) {
            asked[which]++;
            String want = told(due);
            String got = told(real);
            calls.add(name + " = " + got);
            if (!got.equals(want) && !want.equals("TooMany")) {
                wrong++;
                System.out.println("run " + number + ": due is " + want + " at the end of");
                for (String call : calls) {
                    System.out.println("    " + call);
                }
            }
        }

        /** A third of the runs stay with what a new object is. */
        private void begin() {
            String[] groups = {"0 3", "0 4", "0 6", "0 7", "1 4", "1 6", "1 8", "2 8", "3 2", "3 4", "3 8"};
            if (number % 3 != 0) {
                tell("group " + groups[number % groups.length] + ";size " + (1 + die(3)) + " " + (1 + die(2)) + ";shape " + die(3));
                check(2, "board()", board::board, model::board);
            }
        }

        void go() {
            begin();
            while (calls.size() < CALLS && wrong < 10) {
                step();
            }
        }

        private int coordinate() {
            return die(12) == 0 ? die(9) - 3 : die(4);
        }

        private int someTurn() {
            return die(15) == 0 ? die(14) - 3 : die(model.order);
        }

        private void tell(String text) {
            byte[] bytes = new byte[(text.length() + 19) / 20 * 20];
            for (int i = 0; i < text.length(); i++) {
                bytes[i] = (byte) text.charAt(i);
            }
            calls.add("text '" + text + "'");
            int size = model.tape.length();
            for (int i = 0; i < bytes.length; i += 20) {
                int[] n = new int[5];
                for (int j = 0; j < 20; j++) {
                    n[j / 4] = n[j / 4] << 8 | bytes[i + j] & 0xff;
                }
                check(0, "feed", () -> board.feed(n[0], n[1], n[2], n[3], n[4]), () -> model.feed(n));
            }
            int end = size + text.length();
            check(1, "end(" + end + ")", () -> board.end(end) ? 1 : 0, () -> model.end(end) ? 1 : 0);
        }

        private void step() {
            int x = coordinate();
            int y = coordinate();
            boolean north = die(2) == 0;
            int t = someTurn();
            int u = someTurn();
            switch (die(32)) {
                case 0: {
                    int n = die(20) == 0 ? die(500) - 20 : model.tape.length();
                    check(1, "end(" + n + ")", () -> board.end(n) ? 1 : 0, () -> model.end(n) ? 1 : 0);
                    break;
                }
                case 1: case 2: case 3:
                    tell(Texts.board(model));
                    check(2, "board()", board::board, model::board);
                    break;
                case 4: case 5: {
                    int what = die(8) == 0 ? die(9) - 3 : die(3);
                    tell(Texts.walk(model));
                    check(12, "walk(" + what + ")", () -> board.walk(what), () -> model.walk(what));
                    break;
                }
                case 6: case 7: {
                    int kin = die(10) == 0 ? die(14) - 4 : die(model.kins() + 1) - 1;
                    tell(die(4) == 0 ? Texts.walk(model) : Texts.ring(model));
                    check(19, "mean(" + kin + ")", () -> board.mean(kin), () -> model.mean(kin));
                    break;
                }
                case 8:
                    check(4, "by(" + t + ", " + u + ")", () -> board.by(t, u), () -> model.by(t, u));
                    break;
                case 9: {
                    int what = die(10) - 1;
                    check(5, "turn(" + t + ", " + what + ")", () -> board.turn(t, what), () -> model.turn(t, what));
                    break;
                }
                case 10:
                    check(6, "line(" + x + ", " + y + ", " + north + ")", () -> board.line(x, y, north), () -> model.line(x, y, north));
                    break;
                case 11: case 12: case 13: case 14:
                    check(7, "set(" + x + ", " + y + ", " + north + ", " + t + ")", () -> board.set(x, y, north, t), () -> model.set(x, y, north, t));
                    break;
                case 15:
                    check(8, "round(" + x + ", " + y + ")", () -> board.round(x, y), () -> model.round(x, y));
                    break;
                case 16: case 17: case 18:
                    check(9, "frame(" + x + ", " + y + ", " + t + ")", () -> board.frame(x, y, t), () -> model.frame(x, y, t));
                    break;
                case 19: case 20:
                    check(10, "undo()", () -> board.undo() ? 1 : 0, () -> model.undo() ? 1 : 0);
                    break;
                case 21: case 22:
                    check(11, "redo()", () -> board.redo() ? 1 : 0, () -> model.redo() ? 1 : 0);
                    break;
                default:
                    stepMore();
            }
            check(3, "fault()", board::fault, () -> model.fault);
        }

        /** More changes than are remembered, and back by more than there are. */
        private void changeOften() {
            for (int i = 0; i < 24; i++) {
                int x = die(model.wide + 1);
                int y = die(model.high + 1);
                int t = die(model.order);
                boolean north = die(2) == 0;
                if (die(2) == 0) {
                    check(9, "frame(" + x + ", " + y + ", " + t + ")", () -> board.frame(x, y, t), () -> model.frame(x, y, t));
                } else {
                    check(7, "set(" + x + ", " + y + ", " + north + ", " + t + ")", () -> board.set(x, y, north, t), () -> model.set(x, y, north, t));
                }
            }
            int back = die(24);
            for (int i = 0; i < back; i++) {
                check(10, "undo()", () -> board.undo() ? 1 : 0, () -> model.undo() ? 1 : 0);
            }
        }

        private void stepMore() {
            int t = someTurn();
            int seed = die(1 << 30) * 3;
            if (die(60) == 0) {
                changeOften();
            }
            switch (die(18)) {
                case 0: check(13, "worth()", board::worth, model::worth); break;
                case 1: check(14, "turned()", board::turned, model::turned); break;
                case 2: check(15, "alike()", () -> board.alike() ? 1 : 0, () -> model.alike() ? 1 : 0); break;
                case 3: check(16, "sum()", board::sum, model::sum); break;
                case 4: check(17, "listed()", board::listed, model::listed); break;
                case 5: {
                    int k = die(12) - 1;
                    check(18, "states(" + k + ")", () -> board.states(k), () -> model.states(k));
                    break;
                }
                case 6: check(20, "rests(false)", () -> board.rests(false), () -> model.rests(false)); break;
                case 7: check(20, "rests(true)", () -> board.rests(true), () -> model.rests(true)); break;
                case 8: {
                    int squares = die(9) - 1;
                    int handles = die(5) - 1;
                    int crosses = die(5) - 1;
                    check(21, "body(" + squares + ", " + handles + ", " + crosses + ")", () -> board.body(squares, handles, crosses), () -> model.body(squares, handles, crosses));
                    break;
                }
                case 9: check(22, "dual(" + t + ")", () -> board.dual(t), () -> model.dual(t)); break;
                case 10: check(23, "dualSum()", board::dualSum, model::dualSum); break;
                case 11: case 12:
                    if (die(2) == 0) {
                        check(24, "draw(" + seed + ")", () -> board.draw(seed), () -> model.draw(seed));
                    }
                    break;
                case 13:
                    board.image();
                    model.image();
                    asked[25]++;
                    calls.add("image()");
                    break;
                case 14:
                    if (die(3) == 0) {
                        check(26, "back()", () -> board.back() ? 1 : 0, () -> model.back() ? 1 : 0);
                    }
                    break;
                default: {
                    for (int what = -1; what <= 13; what++) {
                        int w = what;
                        check(27, "count(" + w + ")", () -> board.count(w), () -> model.count(w));
                    }
                    asked[28]++;
                }
            }
            for (int sx = 0; sx <= model.wide; sx++) {
                for (int sy = 0; sy <= model.high; sy++) {
                    int x = sx;
                    int y = sy;
                    check(6, "line(" + x + ", " + y + ", false)", () -> board.line(x, y, false), () -> model.line(x, y, false));
                    check(6, "line(" + x + ", " + y + ", true)", () -> board.line(x, y, true), () -> model.line(x, y, true));
                }
            }
        }
    }

    /** Texts that are mostly right. */
    private static final class Texts {
        static String board(Model model) {
            StringBuilder text = new StringBuilder();
            int parts = die(14) == 0 ? 11 + die(4) : die(6);
            int order = model.order;
            int wide = model.wide;
            int high = model.high;
            for (int i = 0; i < parts; i++) {
                text.append(i == 0 ? "" : ";").append(blanks());
                switch (die(10)) {
                    case 0: {
                        int[] kind = {0, 0, 0, 1, 1, 2, 3, 3, die(4)};
                        int[] orders = {2, 3, 5, 6, 8, 8, 2, 4, die(9)};
                        int pick = die(9);
                        order = Math.max(2, orders[pick]);
                        text.append("group ").append(kind[pick]).append(" ").append(order);
                        break;
                    }
                    case 1: case 2:
                        wide = 1 + die(3);
                        high = 1 + die(3);
                        text.append("size ").append(wide).append(' ').append(high);
                        break;
                    case 3: text.append("shape ").append(die(3)); break;
                    case 4: case 5: text.append("weight ").append(die(order + (die(20) == 0 ? 2 : 0))).append(" ").append(blanks()).append(die(die(20) == 0 ? 12 : 10)); break;
                    case 6: text.append("hole ").append(die(wide)).append(" ").append(die(high + (die(8) == 0 ? 1 : 0))); break;
                    default: text.append(die(2) == 0 ? "east" : "north").append(blanks()).append(die(wide + die(2))).append(" ").append(die(high + die(2))).append(" ").append(die(order)).append(blanks());
                }
            }
            return spoilt(text);
        }

        static String walk(Model model) {
            StringBuilder text = new StringBuilder("from ").append(die(model.wide + 1)).append(" ").append(die(model.high + 1));
            int parts = die(14) == 0 ? 11 + die(4) : die(6);
            String[] ways = {"east", "north", "west", "south"};
            for (int i = 0; i < parts; i++) {
                int n = die(5) == 0 ? die(11) : 1;
                text.append(blanks()).append(";").append(blanks()).append(n).append(blanks()).append(ways[die(4)]);
            }
            return spoilt(text);
        }

        /** Round some SQUARES side by side, from any of four CORNERS, either way. */
        static String ring(Model model) {
            int x = die(model.wide);
            int y = die(model.high);
            int w = 1 + die(model.wide - x);
            int h = 1 + die(model.high - y);
            String[] ways = {"east", "north", "west", "south"};
            int[] fromX = {x, x + w, x + w, x};
            int[] fromY = {y, y, y + h, y + h};
            int first = die(4);
            boolean against = die(2) == 0;
            StringBuilder text = new StringBuilder("from ").append(fromX[first]).append(" ").append(fromY[first]);
            for (int i = 0; i < 4; i++) {
                int way = against ? (first + 5 - i) % 4 : (first + i) % 4;
                text.append(";").append(way % 2 == 0 ? w : h).append(" ").append(ways[way]);
            }
            if (die(3) == 0 && w >= 2 && h >= 2) {
                text = new StringBuilder("from ").append(x).append(" ").append(y).append(";2 east;1 north;1 west;1 north;1 west;2 south");
            }
            return spoilt(text);
        }

        private static String blanks() {
            return die(6) == 0 ? "  ".substring(die(2)) : "";
        }

        private static String spoilt(StringBuilder text) {
            if (die(7) == 0) {
                String signs = "0123456789 ;abegnortxz\u00e9\0";
                int at = die(text.length() + 1);
                char sign = signs.charAt(die(signs.length()));
                if (die(3) == 0) {
                    text.insert(at, sign);
                } else if (at < text.length() && die(2) == 0) {
                    text.deleteCharAt(at);
                } else if (at < text.length()) {
                    text.setCharAt(at, sign);
                } else {
                    text.setLength(die(text.length() + 1));
                }
            }
            return text.length() > 400 ? text.substring(0, 400) : text.toString();
        }
    }

    private static final class TooMany extends RuntimeException {
        private static final long serialVersionUID = 1L;
    }

    /** A text taken apart: what each thing is and where it begins. */
    private static final class Tokens {
        private final List<String> words = new ArrayList<>();
        private final List<Integer> begins = new ArrayList<>();
        private int next = 0;
        int fault = -1;

        Tokens(String text) {
            int i = 0;
            while (i < text.length()) {
                int j = i + 1;
                char c = text.charAt(i);
                if (c == ' ') {
                    i++;
                    continue;
                }
                boolean letter = c >= 'a' && c <= 'z';
                boolean digit = c >= '0' && c <= '9';
                while (j < text.length() && (letter && text.charAt(j) >= 'a' && text.charAt(j) <= 'z' || digit && text.charAt(j) >= '0' && text.charAt(j) <= '9')) {
                    j++;
                }
                words.add(text.substring(i, j));
                begins.add(i);
                i = j;
            }
            begins.add(text.length());
        }

        boolean isEnd() {
            return next == words.size();
        }

        int at() {
            return begins.get(next);
        }

        String peek() {
            return isEnd() ? "" : words.get(next);
        }

        void fail(int where) {
            if (fault < 0) {
                fault = where;
            }
            throw new IllegalArgumentException();
        }

        String word(String... known) {
            if (!Arrays.asList(known).contains(peek())) {
                fail(at());
            }
            return words.get(next++);
        }

        int number(int least, int most) {
            String word = peek();
            boolean good = word.matches("[0-9]{1,3}") && Integer.parseInt(word) >= least && Integer.parseInt(word) <= most;
            if (!good) {
                fail(at());
            }
            next++;
            return Integer.parseInt(word);
        }

        void failLatest() {
            fail(begins.get(next - 1));
        }
    }

    private static final class Model {
        StringBuilder tape = new StringBuilder();
        int fault = -1;
        Model image = null;
        int texts = 0;
        int kind = 0;
        int order = 2;
        int wide = 1;
        int high = 1;
        int shape = 0;
        int[] weights = {1, 1};
        boolean[][] holes = new boolean[3][3];
        /** By "x y n" or "x y e" of a CORNER that is told once. */
        TreeMap<String, Integer> lines = new TreeMap<>();
        List<Map<String, Integer>> past = new ArrayList<>();
        List<Map<String, Integer>> future = new ArrayList<>();

        Model() {
            clearLines();
        }

        Model copy() {
            Model m = new Model();
            m.texts = texts;
            m.kind = kind;
            m.order = order;
            m.wide = wide;
            m.high = high;
            m.shape = shape;
            m.weights = weights.clone();
            for (int i = 0; i < 3; i++) {
                m.holes[i] = holes[i].clone();
            }
            m.lines = new TreeMap<>(lines);
            return m;
        }

        void become(Model m) {
            Model c = m.copy();
            texts = c.texts;
            kind = c.kind;
            order = c.order;
            wide = c.wide;
            high = c.high;
            shape = c.shape;
            weights = c.weights;
            holes = c.holes;
            lines = c.lines;
            past.clear();
            future.clear();
        }

        // ---- the TAPE

        long feed(int[] n) {
            if (tape.length() + 20 > 400) {
                return -1;
            }
            for (int v : n) {
                for (int s = 24; s >= 0; s -= 8) {
                    tape.append((char) (v >>> s & 255));
                }
            }
            return tape.length();
        }

        boolean end(int n) {
            if (n < 0 || n > tape.length()) {
                return false;
            }
            tape.setLength(n);
            return true;
        }

        private Tokens open() {
            Tokens tokens = new Tokens(tape.toString());
            tape.setLength(0);
            fault = -1;
            return tokens;
        }

        // ---- turns

        int mul(int a, int b) {
            switch (kind) {
                case 0: return (a + b) % order;
                case 3: return a ^ b;
                default: {
                    int m = order / 2;
                    int k = a % m;
                    int f = a / m;
                    int l = b % m;
                    int g = b / m;
                    int sum = f == 1 ? k - l : k + l;
                    if (kind == 2 && f == 1 && g == 1) {
                        sum += 2;
                    }
                    return ((sum % m) + m) % m + m * ((f + g) % 2);
                }
            }
        }

        int inv(int a) {
            for (int b = 0; b < order; b++) {
                if (mul(a, b) == 0) {
                    return b;
                }
            }
            throw new AssertionError();
        }

        boolean areKin(int a, int b) {
            for (int c = 0; c < order; c++) {
                if (mul(mul(c, a), inv(c)) == b) {
                    return true;
                }
            }
            return false;
        }

        int leastKin(int a) {
            int b = 0;
            while (!areKin(a, b)) {
                b++;
            }
            return b;
        }

        int kinOf(int a) {
            int number = 0;
            for (int b = 0; b < leastKin(a); b++) {
                number += leastKin(b) == b ? 1 : 0;
            }
            return number;
        }

        int kins() {
            Set<Integer> least = new HashSet<>();
            for (int t = 0; t < order; t++) {
                least.add(leastKin(t));
            }
            return least.size();
        }

        void needTurn(int t) {
            if (t < 0 || t >= order) {
                throw new IndexOutOfBoundsException();
            }
        }

        long by(int a, int b) {
            needTurn(a);
            needTurn(b);
            return mul(a, b);
        }

        long turn(int t, int what) {
            needTurn(t);
            int n = 0;
            switch (what) {
                case 0: return inv(t);
                case 1: return kinOf(t);
                case 2:
                    for (int b = 0; b < order; b++) {
                        n += areKin(t, b) ? 1 : 0;
                    }
                    return n;
                case 3:
                    n = 1;
                    for (int p = t; p != 0; p = mul(p, t)) {
                        n++;
                    }
                    return n;
                case 4:
                    for (int a = 0; a < order; a++) {
                        for (int b = 0; b < order; b++) {
                            n += commutator(a, b) == t ? 1 : 0;
                        }
                    }
                    return n;
                case 5:
                    for (int a = 0; a < order; a++) {
                        n += mul(a, a) == t ? 1 : 0;
                    }
                    return n;
                case 6: return weights[t];
                default: throw new NoSuchElementException();
            }
        }

        int commutator(int a, int b) {
            return mul(mul(mul(a, b), inv(a)), inv(b));
        }

        // ---- places

        String key(int x, int y, boolean north) {
            return (shape >= 1 ? x % wide : x) + " " + (shape == 2 ? y % high : y) + (north ? " n" : " e");
        }

        String corner(int x, int y) {
            return (shape >= 1 ? Math.floorMod(x, wide) : x) + " " + (shape == 2 ? Math.floorMod(y, high) : y);
        }

        void clearLines() {
            lines.clear();
            for (int x = 0; x <= wide; x++) {
                for (int y = 0; y <= high; y++) {
                    if (x < wide) {
                        lines.put(key(x, y, false), 0);
                    }
                    if (y < high) {
                        lines.put(key(x, y, true), 0);
                    }
                }
            }
        }

        boolean told(int x, int y) {
            return x >= 0 && x <= wide && y >= 0 && y <= high;
        }

        boolean hasLine(int x, int y, boolean north) {
            return told(x, y) && lines.containsKey(key(x, y, north));
        }

        boolean hasSquare(int x, int y) {
            return x >= 0 && x < wide && y >= 0 && y < high;
        }

        static String begin(String line) {
            return line.substring(0, 3);
        }

        String endOf(String line) {
            int x = line.charAt(0) - '0';
            int y = line.charAt(2) - '0';
            return line.charAt(4) == 'n' ? corner(x, y + 1) : corner(x + 1, y);
        }

        // ---- texts

        long board() {
            Tokens in = open();
            Model draft = copy();
            try {
                draft.read(in);
            } catch (IllegalArgumentException e) {
                fault = in.fault;
                throw e;
            }
            if (texts == 12) {
                throw new UnsupportedOperationException();
            }
            become(draft);
            texts++;
            return texts;
        }

        private void read(Tokens in) {
            if (in.isEnd()) {
                return;
            }
            for (int i = 1; ; i++) {
                if (i == 13) {
                    in.fail(in.at());
                }
                readPart(in);
                if (in.isEnd()) {
                    return;
                }
                in.word(";");
            }
        }

        private void readPart(Tokens in) {
            String word = in.word("group", "size", "shape", "weight", "hole", "east", "north");
            if (word.equals("group")) {
                int k = in.number(0, 3);
                int o = in.number(2, 8);
                String orders = new String[] {"2345678", "468", "8", "248"}[k];
                if (orders.indexOf('0' + o) < 0) {
                    in.failLatest();
                }
                kind = k;
                order = o;
                weights = new int[o];
                Arrays.fill(weights, 1);
                clearLines();
            } else if (word.equals("size") || word.equals("shape")) {
                if (word.equals("size")) {
                    wide = in.number(1, 3);
                    high = in.number(1, 3);
                } else {
                    shape = in.number(0, 2);
                }
                holes = new boolean[3][3];
                clearLines();
            } else if (word.equals("weight")) {
                int t = in.number(0, order - 1);
                int n = in.number(0, 9);
                for (int u = 0; u < order; u++) {
                    if (areKin(t, u)) {
                        weights[u] = n;
                    }
                }
            } else {
                int x = in.number(0, 3);
                int y = in.number(0, 3);
                boolean there = word.equals("hole") ? hasSquare(x, y) : hasLine(x, y, word.equals("north"));
                if (!there) {
                    in.failLatest();
                }
                if (word.equals("hole")) {
                    holes[x][y] = true;
                } else {
                    lines.put(key(x, y, word.equals("north")), in.number(0, order - 1));
                }
            }
        }

        /** LINES that are gone, each with + or - ahead; the first of the list is the CORNER of the begin. */
        private List<String> readWalk(Tokens in) {
            List<String> gone = new ArrayList<>();
            in.word("from");
            int x = in.number(0, wide);
            int y = in.number(0, high);
            gone.add(corner(x, y));
            for (int i = 1; !in.isEnd(); i++) {
                in.word(";");
                if (i == 13) {
                    in.fail(in.at());
                }
                int begin = in.at();
                int n = in.number(1, 9);
                String way = in.word("east", "north", "west", "south");
                for (int j = 0; j < n; j++) {
                    String here = corner(x, y);
                    x = here.charAt(0) - '0';
                    y = here.charAt(2) - '0';
                    String line = null;
                    if (way.equals("east") || way.equals("north")) {
                        line = here + " " + way.charAt(0);
                    }
                    if (way.equals("west")) {
                        line = corner(x - 1, y) + " e";
                    }
                    if (way.equals("south")) {
                        line = corner(x, y - 1) + " n";
                    }
                    if (!lines.containsKey(line)) {
                        in.fail(begin);
                    }
                    boolean on = way.equals("east") || way.equals("north");
                    gone.add((on ? "+" : "-") + line);
                    String there = on ? endOf(line) : begin(line);
                    x = there.charAt(0) - '0';
                    y = there.charAt(2) - '0';
                }
            }
            return gone;
        }

        private List<String> walkRead() {
            Tokens in = open();
            try {
                return readWalk(in);
            } catch (IllegalArgumentException e) {
                fault = in.fault;
                throw e;
            }
        }

        private String placeAfter(List<String> gone, int steps) {
            if (steps == 0) {
                return gone.get(0);
            }
            String step = gone.get(steps);
            return step.charAt(0) == '+' ? endOf(step.substring(1)) : begin(step.substring(1));
        }

        private int comesOf(List<String> gone) {
            int t = 0;
            for (int i = 1; i < gone.size(); i++) {
                int u = lines.get(gone.get(i).substring(1));
                t = mul(t, gone.get(i).charAt(0) == '+' ? u : inv(u));
            }
            return t;
        }

        long walk(int what) {
            List<String> gone = walkRead();
            switch (what) {
                case 0: return comesOf(gone);
                case 1: return placeAfter(gone, gone.size() - 1).equals(gone.get(0)) ? 1 : 0;
                case 2: return gone.size() - 1;
                default: throw new NoSuchElementException();
            }
        }

        // ---- changes by hand: the whole state ahead of each is kept

        long line(int x, int y, boolean north) {
            if (!hasLine(x, y, north)) {
                throw new IndexOutOfBoundsException();
            }
            return lines.get(key(x, y, north));
        }

        private void remember() {
            past.add(new TreeMap<>(lines));
            future.clear();
            if (past.size() > 20) {
                past.remove(0);
            }
        }

        long set(int x, int y, boolean north, int t) {
            long before = line(x, y, north);
            needTurn(t);
            remember();
            lines.put(key(x, y, north), t);
            return before;
        }

        private int change(String corner, int t) {
            int n = 0;
            for (String line : new ArrayList<>(lines.keySet())) {
                int u = lines.get(line);
                int v = u;
                if (begin(line).equals(corner)) {
                    v = mul(t, v);
                }
                if (endOf(line).equals(corner)) {
                    v = mul(v, inv(t));
                }
                lines.put(line, v);
                n += u == v ? 0 : 1;
            }
            return n;
        }

        long frame(int x, int y, int t) {
            if (!told(x, y)) {
                throw new IndexOutOfBoundsException();
            }
            needTurn(t);
            remember();
            return change(corner(x, y), t);
        }

        private boolean move(List<Map<String, Integer>> from, List<Map<String, Integer>> to) {
            if (from.isEmpty()) {
                return false;
            }
            to.add(new TreeMap<>(lines));
            lines = new TreeMap<>(from.remove(from.size() - 1));
            return true;
        }

        boolean undo() {
            return move(past, future);
        }

        boolean redo() {
            return move(future, past);
        }

        // ---- what it comes to

        int at(int x, int y) {
            int e = lines.get(key(x, y, false));
            int n = lines.get(key(x + 1, y, true));
            int w = lines.get(key(x, y + 1, false));
            int s = lines.get(key(x, y, true));
            return mul(mul(mul(e, n), inv(w)), inv(s));
        }

        long round(int x, int y) {
            if (!hasSquare(x, y)) {
                throw new IndexOutOfBoundsException();
            }
            return at(x, y);
        }

        long worth() {
            long w = 1;
            for (int x = 0; x < wide; x++) {
                for (int y = 0; y < high; y++) {
                    w *= holes[x][y] ? 1 : weights[at(x, y)];
                }
            }
            return w;
        }

        long turned() {
            int n = 0;
            for (int x = 0; x < wide; x++) {
                for (int y = 0; y < high; y++) {
                    n += !holes[x][y] && at(x, y) != 0 ? 1 : 0;
                }
            }
            return n;
        }

        boolean atRest() {
            for (int x = 0; x < wide; x++) {
                for (int y = 0; y < high; y++) {
                    if (at(x, y) != 0) {
                        return false;
                    }
                }
            }
            return true;
        }

        Set<String> corners() {
            Set<String> all = new java.util.TreeSet<>();
            for (String line : lines.keySet()) {
                all.add(begin(line));
                all.add(endOf(line));
            }
            return all;
        }

        /** A tree that grows from (0, 0) by the latest LINES that it can take. */
        List<String> others() {
            Set<String> reached = new HashSet<>();
            reached.add("0 0");
            List<String> tree = new ArrayList<>();
            boolean grown = true;
            while (grown) {
                grown = false;
                for (String line : lines.descendingKeySet()) {
                    if (reached.contains(begin(line)) != reached.contains(endOf(line))) {
                        tree.add(line);
                        reached.add(begin(line));
                        reached.add(endOf(line));
                        grown = true;
                        break;
                    }
                }
            }
            List<String> others = new ArrayList<>(lines.keySet());
            others.removeAll(tree);
            return others;
        }

        private interface Look {
            void at();
        }

        /** Looks at each of the STATES; the LINES are as they were behind it. */
        private void list(Look look) {
            List<String> others = others();
            double many = Math.pow(order, others.size());
            if (many > MOST_LISTED) {
                throw new TooMany();
            }
            TreeMap<String, Integer> before = new TreeMap<>(lines);
            for (String line : lines.keySet()) {
                lines.put(line, 0);
            }
            for (long code = 0; code < (long) many; code++) {
                long rest = code;
                for (String line : others) {
                    lines.put(line, (int) (rest % order));
                    rest /= order;
                }
                look.at();
            }
            lines = before;
        }

        long sum() {
            long[] sum = {0};
            list(() -> sum[0] += worth());
            return sum[0];
        }

        long listed() {
            if (wide * high > 4) {
                throw new IllegalStateException();
            }
            return sum();
        }

        long states(int k) {
            long[] n = {0};
            list(() -> n[0] += turned() == k ? 1 : 0);
            return n[0];
        }

        long mean(int kin) {
            List<String> gone;
            try {
                gone = walkRead();
            } catch (IllegalArgumentException e) {
                gone = null;
            }
            if (kin < -1 || kin >= kins()) {
                throw new IndexOutOfBoundsException();
            }
            if (gone == null) {
                throw new IllegalArgumentException();
            }
            Set<String> seen = new HashSet<>();
            for (int i = 1; i < gone.size(); i++) {
                seen.add(placeAfter(gone, i));
            }
            boolean closed = placeAfter(gone, gone.size() - 1).equals(gone.get(0));
            if (shape != 0 || !closed || gone.size() < 5 || seen.size() != gone.size() - 1) {
                throw new IllegalStateException();
            }
            if (kin == -1) {
                return within(gone);
            }
            long[] sum = {0};
            List<String> walk = gone;
            list(() -> sum[0] += kinOf(comesOf(walk)) == kin ? worth() : 0);
            return sum[0];
        }

        /** By the area that the CORNERS tell. */
        private long within(List<String> gone) {
            int twice = 0;
            for (int i = 1; i < gone.size(); i++) {
                String a = placeAfter(gone, i - 1);
                String b = placeAfter(gone, i);
                twice += (a.charAt(0) - '0') * (b.charAt(2) - '0') - (b.charAt(0) - '0') * (a.charAt(2) - '0');
            }
            return Math.abs(twice) / 2;
        }

        long rests(boolean once) {
            List<TreeMap<String, Integer>> resting = new ArrayList<>();
            list(() -> {
                if (atRest()) {
                    resting.add(new TreeMap<>(lines));
                }
            });
            if (!once) {
                return resting.size();
            }
            Set<Map<String, Integer>> seen = new HashSet<>();
            long n = 0;
            for (TreeMap<String, Integer> state : resting) {
                if (seen.contains(state)) {
                    continue;
                }
                n++;
                for (int c = 0; c < order; c++) {
                    TreeMap<String, Integer> moved = new TreeMap<>();
                    for (String line : state.keySet()) {
                        moved.put(line, mul(mul(c, state.get(line)), inv(c)));
                    }
                    seen.add(moved);
                }
            }
            return n;
        }

        /** Changes of FRAMES one CORNER after another, until nothing is new: only of small BOARDS. */
        boolean alike() {
            if (image == null) {
                throw new IllegalStateException();
            }
            if (kind != image.kind || order != image.order || wide != image.wide || high != image.high || shape != image.shape) {
                return false;
            }
            List<String> corners = new ArrayList<>(corners());
            if (Math.pow(order, corners.size()) > 5000) {
                throw new TooMany();
            }
            TreeMap<String, Integer> before = new TreeMap<>(lines);
            boolean alike = false;
            for (long code = 0; code < (long) Math.pow(order, corners.size()); code++) {
                lines = new TreeMap<>(before);
                long rest = code;
                for (String corner : corners) {
                    change(corner, (int) (rest % order));
                    rest /= order;
                }
                alike |= lines.equals(image.lines);
            }
            lines = before;
            return alike;
        }

        long body(int squares, int handles, int crosses) {
            if (squares < 0 || squares > 6 || handles < 0 || handles > 2 || crosses < 0 || crosses > 2) {
                throw new IllegalArgumentException();
            }
            int free = squares + 2 * handles + crosses;
            if (Math.pow(order, free) > MOST_LISTED) {
                throw new TooMany();
            }
            return bodyFrom(0, squares, handles, crosses, 1);
        }

        private long bodyFrom(int t, int squares, int handles, int crosses, long worth) {
            long sum = 0;
            if (handles > 0) {
                for (int a = 0; a < order; a++) {
                    for (int b = 0; b < order; b++) {
                        sum += bodyFrom(mul(t, commutator(a, b)), squares, handles - 1, crosses, worth);
                    }
                }
                return sum;
            }
            if (crosses > 0) {
                for (int c = 0; c < order; c++) {
                    sum += bodyFrom(mul(t, mul(c, c)), squares, handles, crosses - 1, worth);
                }
                return sum;
            }
            if (squares > 0) {
                for (int s = 0; s < order; s++) {
                    sum += bodyFrom(mul(t, s), squares - 1, handles, crosses, worth * weights[s]);
                }
                return sum;
            }
            return t == 0 ? worth : 0;
        }

        long dual(int t) {
            needTurn(t);
            if (kind != 3) {
                throw new IllegalStateException();
            }
            long sum = 0;
            for (int u = 0; u < order; u++) {
                boolean odd = false;
                for (int bit = 1; bit < order; bit *= 2) {
                    odd ^= (t & bit) != 0 && (u & bit) != 0;
                }
                sum += odd ? -weights[u] : weights[u];
            }
            return sum;
        }

        /** The same as SUM, where STATES can be listed. */
        long dualSum() {
            if (kind != 3 || shape != 2) {
                throw new IllegalStateException();
            }
            return sum();
        }

        long draw(int seed) {
            if (shape != 0 || Arrays.stream(weights).sum() == 0) {
                throw new IllegalStateException();
            }
            clearLines();
            past.clear();
            future.clear();
            int s = seed;
            for (int y = 0; y < high; y++) {
                for (int x = 0; x < wide; x++) {
                    s = s * 1103515245 + 12345;
                    List<Integer> bag = new ArrayList<>();
                    for (int t = 0; t < order; t++) {
                        for (int i = 0; i < (holes[x][y] ? 1 : weights[t]); i++) {
                            bag.add(t);
                        }
                    }
                    int turn = bag.get((s >> 16 & 0x7fff) % bag.size());
                    int t = 0;
                    while (t < order) {
                        lines.put(key(x, y + 1, false), t);
                        if (at(x, y) == turn) {
                            break;
                        }
                        t++;
                    }
                }
            }
            return worth();
        }

        void image() {
            image = copy();
        }

        boolean back() {
            if (image == null) {
                return false;
            }
            become(image);
            return true;
        }

        long count(int what) {
            int n = 0;
            switch (what) {
                case 0: return texts;
                case 1: return kind;
                case 2: return order;
                case 3: return kins();
                case 4: return wide;
                case 5: return high;
                case 6: return shape;
                case 7: return corners().size();
                case 8: return lines.size();
                case 9:
                    for (boolean[] column : holes) {
                        for (boolean hole : column) {
                            n += hole ? 1 : 0;
                        }
                    }
                    return n;
                case 10: return past.size();
                case 11: return future.size();
                case 12:
                    for (int a = 0; a < order; a++) {
                        for (int b = 0; b < order; b++) {
                            n += mul(a, b) == mul(b, a) ? 1 : 0;
                        }
                    }
                    return n;
                default: return -1;
            }
        }
    }
}
