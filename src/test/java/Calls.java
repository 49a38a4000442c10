import java.util.NoSuchElementException;

/** What the tests share: calls held against what is due, texts put onto the TAPE, and a look at all of a state. */
abstract class Calls {
    static final Class<?> INDEX = IndexOutOfBoundsException.class;
    static final Class<?> ARGUMENT = IllegalArgumentException.class;
    static final Class<?> STATE = IllegalStateException.class;
    static final Class<?> ELEMENT = NoSuchElementException.class;
    static final Class<?> UNSUPPORTED = UnsupportedOperationException.class;

    /** KIND and ORDER of each GROUP that there is. */
    static final int[][] GROUPS = {
        {0, 2}, {0, 3}, {0, 4}, {0, 5}, {0, 6}, {0, 7}, {0, 8}, {1, 4}, {1, 6}, {1, 8}, {2, 8}, {3, 2}, {3, 4}, {3, 8},
    };

    private static int wrong = 0;
    private static String words = "";

    interface Call {
        Object answer();
    }

    /** What the next calls are about: a promise, or words of the document. */
    static void about(String newWords) {
        words = newWords;
    }

    static void is(Object want, Call call) {
        Object got;
        try {
            got = call.answer();
        } catch (RuntimeException e) {
            got = e.getClass();
        }
        boolean same = want instanceof Number && got instanceof Number
                ? ((Number) want).longValue() == ((Number) got).longValue() : want.equals(got);
        if (!same) {
            wrong++;
            System.out.println(words + ", " + place() + ": " + got + ", due is " + want);
        }
    }

    /** The lines of the test that made the call, the outermost last. */
    private static String place() {
        StringBuilder place = new StringBuilder();
        for (StackTraceElement at : new Throwable().getStackTrace()) {
            boolean inTest = !at.getClassName().startsWith("Calls") && !at.getMethodName().equals("main");
            if (inTest) {
                place.append(place.length() == 0 ? "line " : " < ").append(at.getLineNumber());
            }
        }
        return place.toString();
    }

    static void finish(String test) {
        System.out.println(wrong == 0 ? test + ": all as due" : test + ": " + wrong + " wrong");
        if (wrong != 0) {
            System.exit(1);
        }
    }

    /** Puts a text alone onto the TAPE. */
    static void tape(TurnBoard x, String text) {
        x.end(0);
        for (int i = 0; i < text.length(); i += 20) {
            int[] n = new int[5];
            for (int j = 0; j < 20; j++) {
                int sign = i + j < text.length() ? text.charAt(i + j) : 0;
                n[j / 4] = n[j / 4] << 8 | sign;
            }
            x.feed(n[0], n[1], n[2], n[3], n[4]);
        }
        x.end(text.length());
    }

    static Object board(TurnBoard x, String text) {
        tape(x, text);
        return x.board();
    }

    static TurnBoard told(String... texts) {
        TurnBoard x = new TurnBoard();
        for (String text : texts) {
            board(x, text);
        }
        return x;
    }

    static String group(int[] group) {
        return "group " + group[0] + " " + group[1];
    }

    static void wrongText(TurnBoard x, String text, int fault) {
        int texts = x.count(0);
        is(ARGUMENT, () -> board(x, text));
        is(fault, x::fault);
        is(texts, () -> x.count(0));
    }

    /** On a new object each, so that no text stands in the way of the next. */
    static void newWrong(String text, int fault) {
        wrongText(new TurnBoard(), text, fault);
    }

    static void newRight(String text) {
        TurnBoard x = new TurnBoard();
        is(1, () -> board(x, text));
        is(-1, x::fault);
    }

    static Object walk(TurnBoard x, String text, int what) {
        tape(x, text);
        return x.walk(what);
    }

    static void wrongWalk(TurnBoard x, String text, int fault) {
        is(ARGUMENT, () -> walk(x, text, 0));
        is(fault, x::fault);
    }

    static Object mean(TurnBoard x, String text, int kin) {
        tape(x, text);
        return x.mean(kin);
    }

    /** A by B, as the document tells it for each KIND. */
    static int product(int[] group, int a, int b) {
        int order = group[1];
        if (group[0] == 0) {
            return (a + b) % order;
        }
        if (group[0] == 3) {
            return a ^ b;
        }
        int m = order / 2;
        int f = a / m;
        int g = b / m;
        int k = f == 1 ? a % m - b % m : a % m + b % m;
        if (group[0] == 2 && f == 1 && g == 1) {
            k += 2;
        }
        return Math.floorMod(k, m) + m * ((f + g) % 2);
    }

    static int against(int[] group, int a) {
        for (int b = 0; b < group[1]; b++) {
            if (product(group, a, b) == 0) {
                return b;
            }
        }
        throw new IllegalStateException("no group");
    }

    /** All that calls tell of a state, but for the TAPE and fault(): some sixty calls. */
    static String look(TurnBoard x) {
        StringBuilder text = new StringBuilder();
        for (int what = 0; what <= 12; what++) {
            text.append(x.count(what)).append(' ');
        }
        for (int t = 0; t < x.count(2); t++) {
            text.append(t == 0 ? "weights " : ",").append(x.turn(t, 6));
        }
        return text + turns(x) + " worth " + x.worth() + " turned " + x.turned() + " sum " + x.sum();
    }

    /** The TURNS on all LINES. */
    static String turns(TurnBoard x) {
        StringBuilder text = new StringBuilder(" turns");
        int wide = x.count(4);
        int high = x.count(5);
        for (int y = 0; y <= high; y++) {
            for (int i = 0; i <= wide; i++) {
                text.append(i < wide ? " " + x.line(i, y, false) : "").append(y < high ? " " + x.line(i, y, true) : "");
            }
        }
        return text.toString();
    }
}
