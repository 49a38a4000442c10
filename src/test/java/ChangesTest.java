/** Changes by hand, FRAMES, UNDONE, REDONE, ALIKE and THE IMAGE: promises 9, 11 to 13, 17, 27 and 28. */
public final class ChangesTest extends Calls {
    private static final int[] GROUP = {1, 6};

    public static void main(String[] args) {
        for (int shape = 0; shape <= 2; shape++) {
            for (int wide = 1; wide <= 3; wide++) {
                for (int high = 1; high <= 3; high++) {
                    frames(wide, high, shape);
                    framesKeepKins(wide, high, shape);
                }
            }
        }
        frameByRest();
        bothEnds();
        frameOfNothing();
        undoNothing();
        undoSame();
        undoOfFrames();
        redoUntilAnother();
        refusedKeepThem();
        noneAreRemembered();
        twenty();
        twentyOfBoth();
        alikeNeedsAll();
        alikeFrames();
        alikeNotQuite();
        alikeGoingRound();
        noImage();
        imageOfAll();
        oneImage();
        imageStaysItself();
        finish("ChangesTest");
    }

    private static TurnBoard of(int wide, int high, int shape) {
        TurnBoard x = told(group(GROUP) + ";size " + wide + " " + high + ";shape " + shape);
        for (int i = 0; i < wide; i++) {
            for (int j = 0; j < high; j++) {
                x.set(i, j, false, (3 * i + 5 * j + 1) % 6);
                x.set(i, j, true, (5 * i + 2 * j + 4) % 6);
            }
        }
        if (shape == 0) {
            x.set(wide, high - 1, true, 3);
        }
        if (shape < 2) {
            x.set(wide - 1, high, false, 5);
        }
        return x;
    }

    /** 1 if a LINE goes from a CORNER, 2 if it comes to it, 3 if both. */
    private static int ends(int wide, int high, int shape, int x, int y, boolean north, int cornerX, int cornerY) {
        int ends = isOne(wide, high, shape, x, y, cornerX, cornerY) ? 1 : 0;
        int toX = north ? x : x + 1;
        int toY = north ? y + 1 : y;
        return ends + (isOne(wide, high, shape, toX, toY, cornerX, cornerY) ? 2 : 0);
    }

    private static boolean isOne(int wide, int high, int shape, int x, int y, int otherX, int otherY) {
        boolean column = shape >= 1 ? (x - otherX) % wide == 0 : x == otherX;
        boolean row = shape == 2 ? (y - otherY) % high == 0 : y == otherY;
        return column && row;
    }

    private static int due(int t, int ends, int by) {
        int due = (ends & 1) == 1 ? product(GROUP, by, t) : t;
        return (ends & 2) == 2 ? product(GROUP, due, against(GROUP, by)) : due;
    }

    private static void frames(int wide, int high, int shape) {
        about("FRAME of a CORNER changed by C, of size " + wide + " " + high + " shape " + shape);
        for (int x = 0; x <= wide; x++) {
            for (int y = 0; y <= high; y++) {
                frameAt(wide, high, shape, x, y, 1 + (x + 2 * y) % 5);
            }
        }
    }

    private static void frameAt(int wide, int high, int shape, int cornerX, int cornerY, int by) {
        TurnBoard before = of(wide, high, shape);
        TurnBoard x = of(wide, high, shape);
        int frameChanged = x.frame(cornerX, cornerY, by);
        int changed = 0;
        int columns = shape == 0 ? wide + 1 : wide;
        int rows = shape == 2 ? high : high + 1;
        for (int i = 0; i < columns; i++) {
            for (int j = 0; j < rows; j++) {
                int column = i;
                int row = j;
                for (boolean north : new boolean[] {false, true}) {
                    if (north ? j >= high : i >= wide) {
                        continue;
                    }
                    int was = before.line(i, j, north);
                    int due = due(was, ends(wide, high, shape, i, j, north, cornerX, cornerY), by);
                    changed += was == due ? 0 : 1;
                    is(due, () -> x.line(column, row, north));
                }
            }
        }
        int lines = changed;
        is(lines, () -> frameChanged);
        String after = turns(x);
        is(true, x::undo);
        is(turns(before), () -> turns(x));
        is(true, x::redo);
        is(after, () -> turns(x));
    }

    private static void framesKeepKins(int wide, int high, int shape) {
        about("changes of FRAMES leave the KIN of what is ROUND a SQUARE, of size " + wide + " " + high + " shape " + shape);
        TurnBoard x = of(wide, high, shape);
        TurnBoard y = of(wide, high, shape);
        y.image();
        for (int i = 0; i <= wide; i++) {
            for (int j = 0; j <= high; j++) {
                y.frame(i, j, (i + 3 * j + 2) % 6);
            }
        }
        for (int i = 0; i < wide; i++) {
            for (int j = 0; j < high; j++) {
                int column = i;
                int row = j;
                is(x.turn(x.round(i, j), 1), () -> y.turn(y.round(column, row), 1));
            }
        }
        is(true, y::alike);
    }

    private static void frameByRest() {
        about("how many LINES hold another one by it: by REST none, and it is a change by hand");
        TurnBoard x = of(3, 3, 0);
        int before = x.count(10);
        is(0, () -> x.frame(1, 1, 0));
        is(Math.min(20, before + 1), () -> x.count(10));
        is(4, () -> x.frame(1, 1, 3));
        is(2, () -> x.frame(0, 0, 1));
        is(2, () -> x.frame(3, 3, 1));
        is(3, () -> x.frame(0, 1, 2));
        is(3, () -> x.frame(1, 3, 4));
    }

    private static void bothEnds() {
        about("(of one that does both: both)");
        TurnBoard tube = told("group 1 6;shape 1;east 0 0 1;north 0 0 4");
        is(2, () -> tube.frame(0, 0, 3));
        is(2, () -> tube.line(0, 0, false));
        is(tube.by(3, 4), () -> tube.line(0, 0, true));
        is(1, () -> tube.frame(1, 1, 5));
        is(0, () -> tube.line(0, 1, false));
        TurnBoard closed = told("group 1 6;shape 2;east 0 0 1;north 0 0 4");
        is(1, () -> closed.frame(0, 0, 1));
        is(1, () -> closed.line(0, 0, false));
        is(3, () -> closed.line(0, 0, true));
        is(1, () -> closed.frame(1, 1, 3));
        is(2, () -> closed.line(0, 0, false));
        is(3, () -> closed.line(0, 0, true));
        TurnBoard round = told("group 0 8;shape 2;east 0 0 1;north 0 0 4");
        is(0, () -> round.frame(0, 1, 5));
        TurnBoard high = told("group 1 6;size 2 1;shape 2;north 1 0 1;east 0 0 4");
        is(3, () -> high.frame(1, 0, 3));
        is(2, () -> high.line(1, 0, true));
        is(high.by(4, 3), () -> high.line(0, 0, false));
        is(3, () -> high.line(1, 0, false));
    }

    private static void frameOfNothing() {
        about("IndexOutOfBoundsException: there is no such CORNER or TURN");
        TurnBoard x = of(2, 1, 1);
        String before = look(x);
        is(INDEX, () -> x.frame(3, 0, 0));
        is(INDEX, () -> x.frame(0, 2, 0));
        is(INDEX, () -> x.frame(-1, 0, 1));
        is(INDEX, () -> x.frame(0, -1, 1));
        is(INDEX, () -> x.frame(0, 0, 6));
        is(INDEX, () -> x.frame(0, 0, -1));
        is(INDEX, () -> x.frame(7, 7, 7));
        is(before, () -> look(x));
        x.frame(2, 1, 1);
    }

    private static void undoNothing() {
        about("UNDONE: whether there was one; REDONE: whether there was one");
        TurnBoard x = new TurnBoard();
        is(false, x::undo);
        is(false, x::redo);
        is(0, () -> x.count(10));
        is(0, () -> x.count(11));
        x.set(0, 0, false, 1);
        is(false, x::redo);
        is(1, () -> x.count(10));
        is(0, () -> x.count(11));
        is(true, x::undo);
        is(0, () -> x.count(10));
        is(1, () -> x.count(11));
        is(0, () -> x.line(0, 0, false));
        is(false, x::undo);
        is(1, () -> x.count(11));
        is(true, x::redo);
        is(1, () -> x.line(0, 0, false));
        is(false, x::redo);
        is(1, () -> x.count(10));
        is(0, () -> x.count(11));
        x.image();
        is(1, () -> x.count(10));
    }

    private static void undoSame() {
        about("(also one by which nothing is another one)");
        TurnBoard x = of(1, 1, 0);
        x.image();
        is(true, x::back);
        is(0, () -> x.count(10));
        x.set(0, 0, false, x.line(0, 0, false));
        is(1, () -> x.count(10));
        x.frame(0, 0, 0);
        is(2, () -> x.count(10));
        String same = turns(x);
        is(true, x::undo);
        is(true, x::undo);
        is(false, x::undo);
        is(2, () -> x.count(11));
        is(same, () -> turns(x));
        is(true, x::redo);
        x.set(0, 0, false, x.line(0, 0, false));
        is(false, x::redo);
        is(2, () -> x.count(10));
        is(0, () -> x.count(11));
    }

    private static void undoOfFrames() {
        about("the latest change of a LINE or a FRAME by hand that was not undone");
        TurnBoard x = of(2, 2, 2);
        is(true, () -> x.count(10) == 8);
        String first = turns(x);
        x.frame(0, 0, 1);
        String second = turns(x);
        x.set(2, 2, false, 4);
        String third = turns(x);
        x.frame(2, 1, 5);
        String fourth = turns(x);
        is(true, x::undo);
        is(third, () -> turns(x));
        is(true, x::undo);
        is(second, () -> turns(x));
        is(true, x::undo);
        is(first, () -> turns(x));
        is(3, () -> x.count(11));
        is(true, x::redo);
        is(second, () -> turns(x));
        is(true, x::redo);
        is(third, () -> turns(x));
        is(true, x::redo);
        is(fourth, () -> turns(x));
        is(false, x::redo);
    }

    private static void redoUntilAnother() {
        about("REDONE: the latest that was undone, if no other came since");
        TurnBoard x = told("group 0 5");
        x.set(0, 0, false, 1);
        x.set(0, 0, false, 2);
        x.set(0, 0, false, 3);
        x.undo();
        x.undo();
        is(2, () -> x.count(11));
        is(1, () -> x.count(10));
        x.frame(1, 1, 0);
        is(0, () -> x.count(11));
        is(2, () -> x.count(10));
        is(false, x::redo);
        is(1, () -> x.line(0, 0, false));
        is(true, x::undo);
        is(true, x::undo);
        is(false, x::undo);
        is(0, () -> x.line(0, 0, false));
        is(true, x::redo);
        x.set(0, 0, true, 4);
        is(false, x::redo);
        is(1, () -> x.line(0, 0, false));
        is(4, () -> x.line(0, 0, true));
    }

    private static void refusedKeepThem() {
        about("a call that throws changes nothing: what can be undone and redone stays");
        TurnBoard x = told("group 0 5");
        x.set(0, 0, false, 1);
        x.set(0, 0, false, 2);
        x.undo();
        is(INDEX, () -> x.set(0, 0, false, 5));
        is(INDEX, () -> x.set(1, 0, false, 1));
        is(INDEX, () -> x.frame(0, 0, 5));
        is(INDEX, () -> x.frame(2, 0, 1));
        wrongText(x, "size 1 1;x", 9);
        wrongText(x, "size 9", 5);
        is(ARGUMENT, () -> walk(x, "from", 0));
        is(1, () -> x.count(10));
        is(1, () -> x.count(11));
        is(true, x::redo);
        is(2, () -> x.line(0, 0, false));
        is(2, () -> board(x, "shape 1"));
        x.set(0, 0, false, 1);
        x.set(0, 0, false, 2);
        x.undo();
        is(STATE, () -> x.draw(1));
        is(false, x::back);
        is(1, () -> x.count(10));
        is(1, () -> x.count(11));
    }

    private static TurnBoard changed() {
        TurnBoard x = told("group 0 5;size 2 2");
        x.image();
        x.set(0, 0, false, 1);
        x.frame(1, 1, 2);
        x.set(0, 0, false, 2);
        x.undo();
        is(2, () -> x.count(10));
        is(1, () -> x.count(11));
        return x;
    }

    private static void noneAreRemembered() {
        about("a text, a DRAW, going back to THE IMAGE: none are");
        TurnBoard x = changed();
        is(2, () -> board(x, "shape 1"));
        none(x);
        TurnBoard empty = changed();
        is(2, () -> board(empty, "  "));
        none(empty);
        is(1, () -> empty.line(0, 0, false));
        TurnBoard drawn = changed();
        is(1, () -> drawn.draw(5));
        none(drawn);
        TurnBoard back = changed();
        is(true, back::back);
        none(back);
        TurnBoard kept = changed();
        kept.image();
        is(2, () -> kept.count(10));
        is(1, () -> kept.count(11));
        is(true, kept::redo);
        is(true, kept::back);
        none(kept);
    }

    private static void none(TurnBoard x) {
        is(0, () -> x.count(10));
        is(0, () -> x.count(11));
        is(false, x::undo);
        is(false, x::redo);
        x.set(0, 0, false, 3);
        is(1, () -> x.count(10));
        is(true, x::undo);
    }

    private static void twenty() {
        about("20 at most are remembered, the latest");
        for (int changes = 19; changes <= 42; changes++) {
            TurnBoard x = told("group 0 8");
            for (int i = 1; i <= changes; i++) {
                x.set(0, 0, false, i % 8);
                int done = Math.min(20, i);
                is(done, () -> x.count(10));
            }
            int many = Math.min(20, changes);
            for (int i = 1; i <= many; i++) {
                int before = (changes - i) % 8;
                is(true, x::undo);
                is(before, () -> x.line(0, 0, false));
            }
            is(false, x::undo);
            is(0, () -> x.count(10));
            is(many, () -> x.count(11));
            for (int i = many - 1; i >= 0; i--) {
                int after = (changes - i) % 8;
                is(true, x::redo);
                is(after, () -> x.line(0, 0, false));
            }
            is(false, x::redo);
            is(many, () -> x.count(10));
        }
    }

    private static void twentyOfBoth() {
        about("20 at most are remembered, of LINES and FRAMES together, and another one after some were undone");
        TurnBoard x = told("group 1 6;size 2 2");
        String[] states = new String[31];
        for (int i = 0; i < 30; i++) {
            states[i] = i < 10 ? "" : turns(x);
            if (i % 2 == 0) {
                x.frame(i % 3, i / 2 % 3, 1 + i % 5);
            } else {
                x.set(i % 2, i / 3 % 3, false, i % 6);
            }
        }
        for (int i = 29; i >= 10; i--) {
            x.undo();
        }
        is(states[10], () -> turns(x));
        is(false, x::undo);
        for (int i = 10; i < 15; i++) {
            x.redo();
        }
        is(states[15], () -> turns(x));
        is(15, () -> x.count(11));
        x.set(0, 0, true, 3);
        is(0, () -> x.count(11));
        is(6, () -> x.count(10));
        for (int i = 0; i < 6; i++) {
            is(true, x::undo);
        }
        is(states[10], () -> turns(x));
        is(false, x::undo);
    }

    private static void alikeNeedsAll() {
        about("ALIKE to THE IMAGE: GROUP, size, SHAPE are as in it");
        String[] others = {"group 0 5", "group 0 8", "group 3 8", "group 2 8", "size 1 2", "size 2 1", "size 1 1", "shape 0", "shape 2"};
        for (String other : others) {
            TurnBoard x = told("group 1 8;size 2 2;shape 1");
            is(STATE, x::alike);
            x.image();
            is(true, x::alike);
            is(2, () -> board(x, other));
            is(false, x::alike);
            is(3, () -> board(x, "group 1 8;size 2 2;shape 1"));
            is(true, x::alike);
            is(4, () -> board(x, other));
            is(false, x::alike);
            is(true, x::back);
            is(true, x::alike);
        }
        TurnBoard more = told("group 1 8;size 2 2;shape 1;weight 0 4;hole 0 0");
        more.image();
        is(2, () -> board(more, "weight 0 5;weight 4 0;hole 1 1"));
        is(true, more::alike);
    }

    private static void alikeFrames() {
        about("changes of FRAMES make this state that one");
        for (int[] group : GROUPS) {
            for (int shape = 0; shape <= 2; shape++) {
                TurnBoard x = told(group(group) + ";size 3 3;shape " + shape + ";east 0 0 1;north 2 1 1");
                x.image();
                int last = group[1] - 1;
                x.frame(0, 0, last);
                is(true, x::alike);
                x.frame(3, 3, 1);
                x.frame(1, 2, last);
                x.frame(2, 1, 1);
                is(true, x::alike);
                x.set(1, 1, false, x.by(x.line(1, 1, false), 1));
                is(false, x::alike);
                x.undo();
                is(true, x::alike);
            }
        }
        TurnBoard flat = told("group 1 6;size 3 3");
        flat.image();
        is(1, () -> told("size 3 3").rests(true));
        for (int i = 0; i <= 3; i++) {
            flat.set(i, 0, true, 4);
            flat.set(i, 1, true, 2);
        }
        is(true, flat::alike);
    }

    private static void alikeNotQuite() {
        about("changes of FRAMES make this state that one: KINS alone are not enough");
        TurnBoard x = told("group 1 6;shape 2;east 0 0 3;north 0 0 3");
        x.image();
        x.set(0, 0, false, 4);
        is(false, x::alike);
        x.set(0, 0, true, 4);
        is(true, x::alike);
        x.set(0, 0, false, 0);
        is(false, x::alike);
        TurnBoard tube = told("group 1 8;size 2 1;shape 1;east 0 0 4");
        tube.image();
        tube.set(0, 0, false, 6);
        is(true, tube::alike);
        tube.set(0, 1, false, 1);
        tube.set(0, 0, false, 5);
        is(false, tube::alike);
        TurnBoard four = told("group 2 8;shape 1;east 0 0 1;east 0 1 4");
        four.image();
        four.set(0, 0, false, 3);
        is(true, four::alike);
        four.set(0, 1, false, 5);
        is(true, () -> four.alike() == isTubeAlike(four));
        four.set(0, 0, false, 4);
        is(false, four::alike);
    }

    private static void alikeGoingRound() {
        about("changes of FRAMES make this state that one: what goes round a tube stays of its KIN");
        for (int[] group : GROUPS) {
            TurnBoard tube = told(group(group) + ";size 3 2;shape 1");
            tube.image();
            for (int y = 0; y <= 2; y++) {
                tube.set(1, y, false, 1);
            }
            is(0, tube::turned);
            is(false, tube::alike);
            tube.image();
            for (int y = 0; y <= 2; y++) {
                tube.set(1, y, false, 0);
                tube.set(2, y, false, 1);
            }
            is(true, tube::alike);
            TurnBoard closed = told(group(group) + ";size 2 3;shape 2");
            closed.image();
            for (int x = 0; x < 2; x++) {
                closed.set(x, 1, true, 1);
            }
            is(0, closed::turned);
            is(false, closed::alike);
            closed.set(0, 1, true, 0);
            closed.set(1, 1, true, 0);
            is(true, closed::alike);
        }
    }

    /** Of a tube of one SQUARE: some C at (0, 0) and some D at (0, 1) make all three LINES those of THE IMAGE. */
    private static boolean isTubeAlike(TurnBoard x) {
        int[] group = {2, 8};
        int below = x.line(0, 0, false);
        int above = x.line(0, 1, false);
        int up = x.line(0, 0, true);
        for (int c = 0; c < 8; c++) {
            for (int d = 0; d < 8; d++) {
                int newBelow = product(group, product(group, c, below), against(group, c));
                int newAbove = product(group, product(group, d, above), against(group, d));
                int newUp = product(group, product(group, c, up), against(group, d));
                if (newBelow == 1 && newAbove == 4 && newUp == 0) {
                    return true;
                }
            }
        }
        return false;
    }

    private static void noImage() {
        about("IllegalStateException: none was kept; false, and nothing happens, if none was kept");
        TurnBoard x = of(2, 2, 0);
        x.undo();
        String before = look(x);
        is(STATE, x::alike);
        is(false, x::back);
        is(before, () -> look(x));
        is(true, x::redo);
        x.image();
        is(true, x::alike);
        is(true, x::back);
    }

    private static void imageOfAll() {
        about("THE IMAGE of all may be kept, and gone back to (but for the TAPE, fault() and THE IMAGE itself)");
        TurnBoard x = told("group 2 8;size 3 2", "shape 1;weight 4 7;weight 0 0;hole 2 1;hole 0 0;east 1 2 5");
        x.set(3, 1, true, 6);
        x.image();
        TurnBoard due = told("group 2 8;size 3 2", "shape 1;weight 4 7;weight 0 0;hole 2 1;hole 0 0;east 1 2 5;north 0 1 6");
        is(3, () -> board(x, "group 0 3;size 1 1;shape 2;weight 1 5;east 0 0 2"));
        is(4, () -> board(x, "hole 0 0"));
        wrongText(x, "shape 3", 6);
        is(20, () -> x.feed(0x73686170, 0x65203220, 0x20202020, 0x20202020, 0x20202020));
        is(true, x::back);
        is(6, x::fault);
        is(look(due), () -> look(x));
        is(3, x::board);
        is(2, () -> x.count(6));
        is(3, () -> x.count(4));
        is(true, x::back);
        is(look(due), () -> look(x));
        is(-1, x::fault);
        is(true, x::back);
        x.image();
        is(look(due), () -> look(x));
    }

    private static void oneImage() {
        about("THE IMAGE (one)");
        TurnBoard x = told("group 0 5");
        x.set(0, 0, false, 1);
        x.image();
        x.set(0, 0, false, 2);
        x.image();
        x.set(0, 0, false, 3);
        is(true, x::back);
        is(2, () -> x.line(0, 0, false));
        is(true, x::back);
        is(2, () -> x.line(0, 0, false));
    }

    private static void imageStaysItself() {
        about("what comes behind it does not change THE IMAGE");
        TurnBoard x = told("group 0 5;size 2 2;weight 1 4;hole 1 1;east 0 0 3");
        String due = look(x);
        x.image();
        x.set(0, 0, false, 1);
        x.frame(1, 1, 3);
        x.draw(77);
        is(2, () -> board(x, "weight 1 2;hole 0 0;north 1 1 4"));
        wrongText(x, "group 1 8;size 3 3;weight 0 3;hole 2 2;x", 39);
        is(true, x::back);
        is(due, () -> look(x));
        x.set(0, 0, false, 2);
        x.undo();
        x.frame(0, 0, 4);
        is(true, x::back);
        is(due, () -> look(x));
    }
}
