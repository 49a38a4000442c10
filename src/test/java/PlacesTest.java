/** Sizes, SHAPES, CORNERS, LINES, SQUARES and HOLES: promises 1, 8, 9, 10 and 29, and what is told under "Terms". */
public final class PlacesTest extends Calls {
    private static final int[] GROUP = {1, 6};
    private static final int[] FAR = {
        4, 5, 7, 8, 16, 32, -2, -4, -8, Integer.MAX_VALUE, Integer.MIN_VALUE, 1 << 30, 1 << 31 | 1, 1 << 29,
    };

    public static void main(String[] args) {
        atFirst();
        sizes();
        for (int shape = 0; shape <= 2; shape++) {
            for (int wide = 1; wide <= 3; wide++) {
                for (int high = 1; high <= 3; high++) {
                    counts(wide, high, shape);
                    lines(wide, high, shape);
                    linesOfTexts(wide, high, shape);
                    oneLine(wide, high, shape);
                    corners(wide, high, shape);
                    squares(wide, high, shape);
                    holesOfTexts(wide, high, shape);
                    roundAll(wide, high, shape);
                }
            }
        }
        farAway();
        setAndLine();
        holes();
        roundAtEdges();
        otherCounts();
        finish("PlacesTest");
    }

    private static TurnBoard of(int wide, int high, int shape) {
        return told(group(GROUP) + ";size " + wide + " " + high + ";shape " + shape);
    }

    private static boolean hasLine(int wide, int high, int shape, int x, int y, boolean north) {
        if (x < 0 || y < 0 || x > wide || y > high) {
            return false;
        }
        if (north) {
            return y < high || shape == 2;
        }
        return x < wide || shape >= 1;
    }

    private static void atFirst() {
        about("1 and 1 at first; SHAPE 0 flat (at first); REST at first; 1 each at first");
        TurnBoard x = new TurnBoard();
        is(1, () -> x.count(4));
        is(1, () -> x.count(5));
        is(0, () -> x.count(6));
        is(4, () -> x.count(7));
        is(4, () -> x.count(8));
        is(0, () -> x.count(9));
        is(0, () -> x.line(0, 0, false));
        is(0, () -> x.line(0, 0, true));
        is(0, () -> x.line(0, 1, false));
        is(0, () -> x.line(1, 0, true));
        is(INDEX, () -> x.line(1, 0, false));
        is(INDEX, () -> x.line(1, 1, false));
        is(INDEX, () -> x.line(0, 1, true));
        is(INDEX, () -> x.line(1, 1, true));
        is(0, () -> x.round(0, 0));
        is(1, () -> x.turn(0, 6));
        is(1, () -> x.turn(1, 6));
        is(0, () -> x.count(0));
        is(0, () -> x.count(10));
        is(0, () -> x.count(11));
        is(-1, x::fault);
        is(1, x::worth);
        is(0, x::turned);
        is(STATE, x::alike);
        is(false, x::back);
        is(false, x::undo);
        is(false, x::redo);
    }

    private static void sizes() {
        about("WIDE and HIGH (1 to 3 SQUARES each)");
        for (int wide = 0; wide <= 4; wide++) {
            for (int high = 0; high <= 4; high++) {
                String text = "size " + wide + " " + high;
                if (wide < 1 || wide > 3) {
                    newWrong(text, 5);
                } else if (high < 1 || high > 3) {
                    newWrong(text, 7);
                } else {
                    newRight(text);
                }
            }
        }
        about("SHAPE 0 flat, 1 a tube, 2 closed");
        newRight("shape 0");
        newRight("shape 1");
        newRight("shape 2");
        newWrong("shape 3", 6);
        is(2, () -> told("shape 2").count(6));
        is(0, () -> told("shape 2;shape 0").count(6));
    }

    private static void counts(int wide, int high, int shape) {
        about("7 CORNERS (each once), 8 LINES of size " + wide + " " + high + " shape " + shape);
        int columns = shape == 0 ? wide + 1 : wide;
        int rows = shape == 2 ? high : high + 1;
        TurnBoard x = of(wide, high, shape);
        is(wide, () -> x.count(4));
        is(high, () -> x.count(5));
        is(shape, () -> x.count(6));
        is(columns * rows, () -> x.count(7));
        is(wide * rows + columns * high, () -> x.count(8));
        is(0, () -> x.count(9));
    }

    private static void lines(int wide, int high, int shape) {
        about("LINES, as far as there are, of size " + wide + " " + high + " shape " + shape);
        TurnBoard x = of(wide, high, shape);
        for (int i = -1; i <= 4; i++) {
            for (int j = -1; j <= 4; j++) {
                int column = i;
                int row = j;
                boolean east = hasLine(wide, high, shape, i, j, false);
                boolean north = hasLine(wide, high, shape, i, j, true);
                is(east ? 0 : INDEX, () -> x.line(column, row, false));
                is(north ? 0 : INDEX, () -> x.line(column, row, true));
                is(east ? 0 : INDEX, () -> x.set(column, row, false, 0));
                is(north ? 0 : INDEX, () -> x.set(column, row, true, 0));
            }
        }
    }

    private static void linesOfTexts(int wide, int high, int shape) {
        about("X, Y of a CORNER from which that LINE goes: then the latter number; size " + wide + " " + high + " shape " + shape);
        for (int x = 0; x <= 4; x++) {
            for (int y = 0; y <= 4; y++) {
                lineOfText(of(wide, high, shape), x, y, false, hasLine(wide, high, shape, x, y, false));
                lineOfText(of(wide, high, shape), x, y, true, hasLine(wide, high, shape, x, y, true));
            }
        }
    }

    private static void lineOfText(TurnBoard board, int x, int y, boolean north, boolean there) {
        String text = (north ? "north " : " east ") + x + " " + y + " 5";
        if (there) {
            is(2, () -> board(board, text));
            is(5, () -> board.line(x, y, north));
        } else {
            wrongText(board, text, x > 3 ? 6 : 8);
        }
    }

    private static void oneLine(int wide, int high, int shape) {
        about("On a tube X WIDE is X 0; if it is closed, Y HIGH is Y 0, too; size " + wide + " " + high + " shape " + shape);
        for (int x = 0; x <= wide; x++) {
            for (int y = 0; y <= high; y++) {
                int t = 1 + (2 * x + y) % 5;
                setAndSee(wide, high, shape, x, y, false, t);
                setAndSee(wide, high, shape, x, y, true, t);
            }
        }
    }

    /** What is set by one name of a LINE is seen by all its names. */
    private static void setAndSee(int wide, int high, int shape, int x, int y, boolean north, int t) {
        if (!hasLine(wide, high, shape, x, y, north)) {
            return;
        }
        TurnBoard board = of(wide, high, shape);
        int column = shape >= 1 ? x % wide : x;
        int row = shape == 2 ? y % high : y;
        board.set(x, y, north, t);
        is(t, () -> board.line(x, y, north));
        is(t, () -> board.line(column, row, north));
        is(t, () -> board.set(column, row, north, 0));
        is(0, () -> board.line(x, y, north));
        is(turns(of(wide, high, shape)), () -> turns(board));
        board.set(x, y, north, t);
        is(t, () -> board.set(x, y, north, 0));
    }

    private static void corners(int wide, int high, int shape) {
        about("CORNERS X 0 to WIDE, Y 0 to HIGH of size " + wide + " " + high + " shape " + shape);
        TurnBoard x = of(wide, high, shape);
        for (int i = -1; i <= 4; i++) {
            for (int j = -1; j <= 4; j++) {
                int column = i;
                int row = j;
                boolean there = i >= 0 && j >= 0 && i <= wide && j <= high;
                is(there ? 0 : INDEX, () -> x.frame(column, row, 0));
                String text = "from " + i + " " + j;
                if (there) {
                    is(1, () -> walk(x, text, 1));
                } else if (i >= 0 && j >= 0) {
                    wrongWalk(x, text, i > wide ? 5 : 7);
                }
            }
        }
    }

    private static void squares(int wide, int high, int shape) {
        about("SQUARE (X, Y), X 0 to WIDE less 1, Y 0 to HIGH less 1 of size " + wide + " " + high + " shape " + shape);
        TurnBoard x = of(wide, high, shape);
        for (int i = -1; i <= 4; i++) {
            for (int j = -1; j <= 4; j++) {
                int column = i;
                int row = j;
                boolean there = i >= 0 && j >= 0 && i < wide && j < high;
                is(there ? 0 : INDEX, () -> x.round(column, row));
            }
        }
    }

    private static void holesOfTexts(int wide, int high, int shape) {
        about("X, Y of a SQUARE (hole): then the latter number; size " + wide + " " + high + " shape " + shape);
        for (int x = 0; x <= 4; x++) {
            for (int y = 0; y <= 4; y++) {
                TurnBoard board = of(wide, high, shape);
                String text = "hole " + x + " " + y;
                boolean there = x < wide && y < high;
                if (there) {
                    is(2, () -> board(board, text));
                } else {
                    wrongText(board, text, x > 3 ? 5 : 7);
                }
                is(there ? 1 : 0, () -> board.count(9));
            }
        }
    }

    private static void roundAll(int wide, int high, int shape) {
        about("ROUND a SQUARE, of size " + wide + " " + high + " shape " + shape);
        TurnBoard x = of(wide, high, shape);
        for (int i = 0; i <= wide; i++) {
            for (int j = 0; j <= high; j++) {
                if (hasLine(wide, high, shape, i, j, false)) {
                    x.set(i, j, false, (3 * i + 5 * j + 1) % 6);
                }
                if (hasLine(wide, high, shape, i, j, true)) {
                    x.set(i, j, true, (5 * i + 2 * j + 4) % 6);
                }
            }
        }
        for (int i = 0; i < wide; i++) {
            for (int j = 0; j < high; j++) {
                int column = i;
                int row = j;
                int ahead = product(GROUP, x.line(i, j, false), x.line(i + 1, j, true));
                int west = against(GROUP, x.line(i, j + 1, false));
                int south = against(GROUP, x.line(i, j, true));
                is(product(GROUP, product(GROUP, ahead, west), south), () -> x.round(column, row));
            }
        }
    }

    private static void farAway() {
        about("IndexOutOfBoundsException: there is no such CORNER, LINE, SQUARE");
        for (int shape = 0; shape <= 2; shape++) {
            TurnBoard x = of(3, 3, shape);
            for (int far : FAR) {
                is(INDEX, () -> x.line(far, 0, true));
                is(INDEX, () -> x.line(0, far, false));
                is(INDEX, () -> x.line(far, far, true));
                is(INDEX, () -> x.set(far, 1, false, 0));
                is(INDEX, () -> x.set(1, far, true, 0));
                is(INDEX, () -> x.round(far, 0));
                is(INDEX, () -> x.round(0, far));
                is(INDEX, () -> x.frame(far, 0, 0));
                is(INDEX, () -> x.frame(0, far, 0));
            }
            is(0, () -> x.count(10));
        }
    }

    private static void setAndLine() {
        about("A LINE holds a TURN from now on: which it was");
        TurnBoard x = of(3, 3, 0);
        is(0, () -> x.set(2, 3, false, 5));
        is(5, () -> x.set(2, 3, false, 5));
        is(5, () -> x.set(2, 3, false, 0));
        is(0, () -> x.set(3, 2, true, 1));
        is(0, () -> x.line(2, 3, false));
        is(1, () -> x.line(3, 2, true));
        is(4, () -> x.count(10));
        is(INDEX, () -> x.set(3, 2, true, 6));
        is(INDEX, () -> x.set(3, 3, true, 0));
        is(1, () -> x.line(3, 2, true));
        is(4, () -> x.count(10));
    }

    private static void holes() {
        about("A SQUARE may be a HOLE");
        TurnBoard x = told("group 1 6;size 3 3;hole 0 0;hole 2 2;hole 2 2;hole 0 2");
        is(3, () -> x.count(9));
        x.set(0, 0, false, 4);
        is(4, () -> x.round(0, 0));
        is(2, () -> board(x, "hole 0 0;hole 1 1"));
        is(4, () -> x.count(9));
        is(4, () -> x.line(0, 0, false));
        is(3, () -> board(x, "hole 0 1;hole 1 0;hole 1 2;hole 2 0;hole 2 1"));
        is(9, () -> x.count(9));
        about("size, shape: all LINES are REST, no HOLES then");
        for (String text : new String[] {"size 3 3", "shape 0", "shape 2", "size 1 2"}) {
            TurnBoard y = told("group 1 6;size 3 3;hole 0 0;hole 2 2;weight 3 4;weight 1 0;east 0 0 1;north 0 1 2");
            is(2, () -> board(y, text));
            is(0, () -> y.count(9));
            is(0, () -> y.line(0, 0, false));
            is(0, () -> y.line(0, 1, true));
            is(4, () -> y.turn(5, 6));
            is(0, () -> y.turn(2, 6));
            is(6, () -> y.count(2));
        }
        about("group: all LINES are REST, WEIGHTS 1 then");
        for (int[] group : GROUPS) {
            TurnBoard y = told("group 1 6;size 3 2;shape 1;hole 0 0;hole 2 1;weight 3 4;weight 1 0;east 0 0 1;north 0 1 1");
            is(2, () -> board(y, group(group)));
            is(2, () -> y.count(9));
            is(3, () -> y.count(4));
            is(2, () -> y.count(5));
            is(1, () -> y.count(6));
            is(0, () -> y.line(0, 0, false));
            is(0, () -> y.line(0, 1, true));
            is(1, () -> y.turn(1, 6));
            is(1, () -> y.turn(group[1] - 1, 6));
        }
        about("size, then hole: the HOLE stays; a later size or shape takes it away");
        is(1, () -> told("size 2 2;hole 1 1;group 0 5;weight 1 3").count(9));
        is(0, () -> told("size 2 2;hole 1 1;shape 0").count(9));
        is(0, () -> told("hole 0 0;size 2 2;size 1 1").count(9));
    }

    private static void roundAtEdges() {
        about("ROUND where LINES are one: a closed SQUARE by itself has A by B by AGAINST A by AGAINST B");
        for (int a = 0; a < 8; a++) {
            TurnBoard one = told("group 2 8;shape 2");
            for (int b = 0; b < 8; b++) {
                one.set(1, 1, false, a);
                one.set(0, 1, true, b);
                int due = one.by(one.by(a, b), one.by(one.turn(a, 0), one.turn(b, 0)));
                is(due, () -> one.round(0, 0));
            }
        }
        about("ROUND where LINES are one: a tube of one SQUARE");
        TurnBoard tube = told("group 1 6;shape 1;east 0 0 1;east 0 1 4;north 0 0 3");
        is(tube.by(tube.by(1, 3), tube.by(4, 3)), () -> tube.round(0, 0));
    }

    private static void otherCounts() {
        about("NONE for another what");
        TurnBoard x = of(3, 3, 2);
        for (int what : new int[] {-1, 13, 14, Integer.MAX_VALUE, Integer.MIN_VALUE}) {
            is(-1, () -> x.count(what));
        }
        is(18, () -> x.count(12));
    }
}
