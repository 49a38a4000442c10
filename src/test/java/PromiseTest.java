/** For each promise of the document: ordinary calls, the edges that it names, and wrong calls. */
public final class PromiseTest extends Calls {
    public static void main(String[] args) {
        newObject();
        feedAndEnd();
        boardGroups();
        boardPlaces();
        boardFaults();
        boardLimits();
        fault();
        by();
        turn();
        line();
        set();
        round();
        frame();
        undoAndRedo();
        undoLimits();
        walk();
        walkFaults();
        worthAndTurned();
        alike();
        sumAndListed();
        states();
        mean();
        rests();
        body();
        dual();
        draw();
        imageAndBack();
        count();
        manyCalls();
        finish("PromiseTest");
    }

    private static void newObject() {
        about("1 a new object");
        TurnBoard x = new TurnBoard();
        int[] want = {0, 0, 2, 2, 1, 1, 0, 4, 4, 0, 0, 0, 4};
        for (int i = 0; i < want.length; i++) {
            int what = i;
            is(want[i], () -> x.count(what));
        }
        is(-1, () -> TurnBoard.NONE);
        is(0, () -> x.line(0, 0, false));
        is(0, () -> x.line(1, 0, true));
        is(1, () -> x.turn(0, 6));
        is(1, () -> x.turn(1, 6));
        is(-1, x::fault);
        is(false, x::back);
        is(false, () -> x.end(1));
    }

    private static void feedAndEnd() {
        about("2 feed, 3 end");
        TurnBoard x = new TurnBoard();
        for (int i = 1; i <= 20; i++) {
            is(20 * i, () -> x.feed(0x20202020, 0x20202020, 0x20202020, 0x20202020, 0x20202020));
        }
        is(-1, () -> x.feed(1, 2, 3, 4, 5));
        is(false, () -> x.end(401));
        is(true, () -> x.end(400));
        is(true, () -> x.end(381));
        is(-1, () -> x.feed(1, 2, 3, 4, 5));
        is(true, () -> x.end(380));
        is(400, () -> x.feed(0x20202020, 0x20202020, 0x20202020, 0x20202020, 0x20202020));
        is(false, () -> x.end(-1));
        is(1, x::board);
        is(false, () -> x.end(1));
        is(true, () -> x.end(0));
        is(20, () -> x.feed(0x73687061, 0x70652032, 0x20202020, 0x20202020, 0x20202020));
        is(true, () -> x.end(3));
        is(23, () -> x.feed(0x61706532, 0x3b302020, 0xff808000, 0, 0));
        is(ARGUMENT, x::board);
        is(0, x::fault);
        tape(x, "size 2 2\u00ff");
        is(ARGUMENT, x::board);
        is(8, x::fault);
    }

    private static void boardGroups() {
        about("4 board: group and weight");
        for (int kind = 0; kind <= 4; kind++) {
            for (int order = 0; order <= 9; order++) {
                TurnBoard x = new TurnBoard();
                int o = order;
                boolean there = kind == 0 && o >= 2 && o <= 8 || kind == 1 && (o == 4 || o == 6 || o == 8)
                        || kind == 2 && o == 8 || kind == 3 && (o == 2 || o == 4 || o == 8);
                tape(x, "group " + kind + " " + order);
                is(there ? 1 : ARGUMENT, x::board);
                is(there ? -1 : kind > 3 ? 6 : 8, x::fault);
                is(there ? order : 2, () -> x.count(2));
            }
        }
        TurnBoard x = told("size 2 1;hole 1 0;weight 1 4;east 0 0 1");
        tape(x, "group 0 2");
        is(2, x::board);
        is(0, () -> x.line(0, 0, false));
        is(1, () -> x.turn(1, 6));
        is(1, () -> x.count(9));
        TurnBoard y = told("group 1 8;weight 4 7;weight 1 0");
        int[] weights = {1, 0, 1, 0, 7, 1, 7, 1};
        for (int i = 0; i < 8; i++) {
            int t = i;
            is(weights[i], () -> y.turn(t, 6));
        }
        tape(y, "weight 0 9;weight 7 9");
        is(2, y::board);
        is(9, () -> y.turn(0, 6));
        is(9, () -> y.turn(5, 6));
        is(7, () -> y.turn(6, 6));
    }

    private static void boardPlaces() {
        about("4 board: places");
        TurnBoard x = told("size 2 2;hole 0 1;hole 0 1;weight 1 3;north 2 0 1");
        is(1, () -> x.count(9));
        is(1, () -> x.line(2, 0, true));
        tape(x, "shape 1");
        is(2, x::board);
        is(0, () -> x.count(9));
        is(0, () -> x.line(2, 0, true));
        is(3, () -> x.turn(1, 6));
        tape(x, "hole 1 1; north 2 1 1 ;size 2 3");
        is(3, x::board);
        is(0, () -> x.count(9));
        is(0, () -> x.line(0, 1, true));
        is(1, () -> x.count(6));
        tape(x, "  east2 0 1;north002 001 1  ");
        is(4, x::board);
        is(1, () -> x.line(0, 0, false));
        is(1, () -> x.line(0, 1, true));
        tape(x, "");
        is(5, x::board);
        tape(x, "    ");
        is(6, x::board);
        is(1, () -> x.line(0, 1, true));
        TurnBoard y = told("shape 2;group 0 5;east 1 1 4;north 0 1 3");
        is(4, () -> y.line(0, 0, false));
        is(3, () -> y.line(1, 1, true));
        is(0, () -> y.round(0, 0));
    }

    private static void boardFaults() {
        about("4 board: wrong texts, 5 fault");
        TurnBoard x = new TurnBoard();
        wrongText(x, "group", 5);
        wrongText(x, "group  ", 7);
        wrongText(x, "groups 0 2", 0);
        wrongText(x, " Group 0 2", 1);
        wrongText(x, "group 0 1", 8);
        wrongText(x, "group 1 5", 8);
        wrongText(x, "group 4", 6);
        wrongText(x, "group 0002 2", 6);
        wrongText(x, "group 99999999999999999999 2", 6);
        wrongText(x, "size 2 ,1", 7);
        wrongText(x, "size 4 1", 5);
        wrongText(x, "size 3 4", 7);
        wrongText(x, "size 3 0", 7);
        wrongText(x, "size 0 3", 5);
        wrongText(x, "size 21", 5);
        wrongText(x, "size 2 1 3", 9);
        wrongText(x, "size 2 1x", 8);
        wrongText(x, "size 3 3;east 3 0 1;x", 16);
        wrongText(x, "shape 3", 6);
        wrongText(x, "shape 1;", 8);
        wrongText(x, "shape 1;  ", 10);
        wrongText(x, "shape 1;;", 8);
        wrongText(x, ";", 0);
        wrongText(x, "weight 2 1", 7);
        wrongText(x, "group 0 4;weight 3 10", 19);
        wrongText(x, "group 0 4;group 0 2;weight 3 1", 27);
        wrongText(x, "hole 1 0", 7);
        wrongText(x, "hole 4 0", 5);
        wrongText(x, "size 2 2;shape 2;hole 2 0", 24);
        wrongText(x, "east 1 0 9", 7);
        wrongText(x, "east 1 0", 7);
        wrongText(x, "east 1", 6);
        wrongText(x, "north 0 1 0", 8);
        wrongText(x, "shape 1;north 1 1 0", 16);
        wrongText(x, "shape 2;north 1 2 0", 16);
        wrongText(x, "east 0 0 2", 9);
        wrongText(x, "east 0 0 1;north 0 0 1;size 9 9", 28);
        is(0, () -> x.line(0, 0, false));
        is(2, () -> x.count(2));
        is(1, () -> x.count(4));
    }

    private static void boardLimits() {
        about("4 board: limits");
        String twelve = "shape 0;shape 0;shape 0;shape 0;shape 0;shape 0;shape 0;shape 0;shape 0;shape 0;shape 0;shape 1";
        TurnBoard x = new TurnBoard();
        wrongText(x, twelve + "; shape 0", 97);
        wrongText(x, twelve + "; 7", 97);
        wrongText(x, twelve + "; ", 97);
        wrongText(x, twelve + " shape 0", 96);
        tape(x, twelve);
        is(1, x::board);
        is(1, () -> x.count(6));
        for (int i = 2; i <= 12; i++) {
            tape(x, "shape 2");
            is(i, x::board);
        }
        x.set(0, 0, false, 1);
        tape(x, "shape 0");
        is(UNSUPPORTED, x::board);
        is(-1, x::fault);
        is(false, () -> x.end(1));
        tape(x, "shape 5");
        is(ARGUMENT, x::board);
        is(6, x::fault);
        is(2, () -> x.count(6));
        is(12, () -> x.count(0));
        is(1, () -> x.count(10));
        is(1, () -> x.line(0, 0, false));
    }

    private static void fault() {
        about("5 fault");
        TurnBoard x = new TurnBoard();
        is(-1, x::fault);
        tape(x, "shape 7");
        is(-1, x::fault);
        is(ARGUMENT, x::board);
        is(6, x::fault);
        x.image();
        x.back();
        is(6, x::fault);
        tape(x, "from 0 0;1 east;1 lost");
        is(ARGUMENT, () -> x.walk(9));
        is(18, x::fault);
        is(ARGUMENT, () -> x.walk(0));
        is(0, x::fault);
        tape(x, "from 0 9");
        is(INDEX, () -> x.mean(2));
        is(7, x::fault);
        tape(x, "from 0 0");
        is(ELEMENT, () -> x.walk(3));
        is(-1, x::fault);
    }

    private static void by() {
        about("6 by");
        TurnBoard round = told("group 0 7");
        is(4, () -> round.by(5, 6));
        is(6, () -> round.by(6, 0));
        is(INDEX, () -> round.by(7, 0));
        is(INDEX, () -> round.by(0, -1));
        TurnBoard flips = told("group 1 8");
        is(5, () -> flips.by(1, 4));
        is(7, () -> flips.by(4, 1));
        is(2, () -> flips.by(7, 5));
        is(0, () -> flips.by(6, 6));
        TurnBoard four = told("group 2 8");
        is(2, () -> four.by(4, 4));
        is(0, () -> four.by(4, 6));
        is(1, () -> four.by(7, 4));
        is(7, () -> four.by(4, 1));
        TurnBoard halves = told("group 3 8");
        is(6, () -> halves.by(5, 3));
        is(0, () -> halves.by(7, 7));
        is(INDEX, () -> halves.by(8, 0));
    }

    private static void turn() {
        about("7 turn");
        int[][] flips = {
            {0, 2, 1, 3, 4, 5},
            {0, 1, 1, 2, 2, 2},
            {1, 2, 2, 3, 3, 3},
            {1, 3, 3, 2, 2, 2},
            {18, 9, 9, 0, 0, 0},
            {4, 1, 1, 0, 0, 0},
            {1, 1, 1, 5, 5, 5},
        };
        TurnBoard x = told("group 1 6;weight 4 5");
        for (int i = 0; i < flips.length; i++) {
            for (int j = 0; j < 6; j++) {
                int t = j;
                int what = i;
                is(flips[i][j], () -> x.turn(t, what));
            }
        }
        is(ELEMENT, () -> x.turn(0, 7));
        is(ELEMENT, () -> x.turn(5, -1));
        is(INDEX, () -> x.turn(6, 0));
        is(INDEX, () -> x.turn(-1, 9));
        TurnBoard four = told("group 2 8");
        is(6, () -> four.turn(4, 0));
        is(4, () -> four.turn(7, 3));
        is(2, () -> four.turn(2, 3));
        is(6, () -> four.turn(2, 5));
        is(24, () -> four.turn(2, 4));
        is(40, () -> four.turn(0, 4));
        is(4, () -> four.turn(7, 1));
        TurnBoard seven = told("group 0 7");
        is(7, () -> seven.turn(3, 3));
        is(6, () -> seven.turn(6, 1));
        is(49, () -> seven.turn(0, 4));
    }

    private static void line() {
        about("8 line");
        TurnBoard flat = told("group 0 5;size 2 1;east 1 1 3;north 2 0 4");
        is(3, () -> flat.line(1, 1, false));
        is(4, () -> flat.line(2, 0, true));
        is(INDEX, () -> flat.line(2, 0, false));
        is(INDEX, () -> flat.line(0, 1, true));
        is(INDEX, () -> flat.line(3, 0, true));
        is(INDEX, () -> flat.line(-1, 0, true));
        is(INDEX, () -> flat.line(0, 2, false));
        is(INDEX, () -> flat.line(0, -1, false));
        TurnBoard tube = told("group 0 5;size 2 1;shape 1;east 0 1 3;north 0 0 4");
        is(3, () -> tube.line(2, 1, false));
        is(4, () -> tube.line(2, 0, true));
        is(INDEX, () -> tube.line(0, 1, true));
        is(INDEX, () -> tube.line(3, 0, true));
        TurnBoard closed = told("group 0 5;size 3 3;shape 2;east 0 0 2;north 0 0 1");
        is(2, () -> closed.line(3, 3, false));
        is(1, () -> closed.line(3, 3, true));
        is(1, () -> closed.line(0, 3, true));
        is(INDEX, () -> closed.line(4, 0, true));
        is(INDEX, () -> closed.line(0, 4, false));
    }

    private static void set() {
        about("9 set");
        TurnBoard x = told("group 0 5;size 2 2;shape 1");
        is(0, () -> x.set(2, 0, true, 3));
        is(3, () -> x.set(0, 0, true, 4));
        is(4, () -> x.line(2, 0, true));
        is(4, () -> x.set(0, 0, true, 4));
        is(3, () -> x.count(10));
        is(INDEX, () -> x.set(0, 0, true, 5));
        is(INDEX, () -> x.set(0, 0, true, -1));
        is(INDEX, () -> x.set(0, 2, true, 0));
        is(INDEX, () -> x.set(3, 0, false, 0));
        is(3, () -> x.count(10));
        is(4, () -> x.line(0, 0, true));
    }

    private static void round() {
        about("10 round");
        TurnBoard x = told("group 1 6;size 2 1;east 0 0 1;north 1 0 3;east 0 1 4;north 0 0 2");
        int want = x.by(x.by(x.by(1, 3), x.turn(4, 0)), x.turn(2, 0));
        is(want, () -> x.round(0, 0));
        is(3, () -> x.round(1, 0));
        is(INDEX, () -> x.round(2, 0));
        is(INDEX, () -> x.round(0, 1));
        is(INDEX, () -> x.round(-1, 0));
        is(INDEX, () -> x.round(0, -1));
        TurnBoard one = told("group 1 6;shape 2;east 0 0 1;north 0 0 3");
        is(2, () -> one.round(0, 0));
        is(INDEX, () -> one.round(1, 0));
    }

    private static void frame() {
        about("11 frame");
        TurnBoard x = told("group 1 6;size 2 2;east 0 1 4;east 1 1 1;north 1 1 3");
        is(4, () -> x.frame(1, 1, 1));
        is(x.by(4, 2), () -> x.line(0, 1, false));
        is(2, () -> x.line(1, 1, false));
        is(x.by(1, 3), () -> x.line(1, 1, true));
        is(2, () -> x.line(1, 0, true));
        is(0, () -> x.frame(2, 2, 0));
        is(2, () -> x.frame(2, 2, 5));
        is(3, () -> x.count(10));
        is(INDEX, () -> x.frame(3, 0, 0));
        is(INDEX, () -> x.frame(0, -1, 0));
        is(INDEX, () -> x.frame(0, 0, 6));
        TurnBoard one = told("group 1 6;shape 2;east 0 0 1;north 0 0 3");
        is(1, () -> one.frame(1, 1, 1));
        is(1, () -> one.line(0, 0, false));
        is(5, () -> one.line(0, 0, true));
        TurnBoard tube = told("group 1 6;shape 1;east 0 0 1");
        is(2, () -> tube.frame(1, 0, 3));
        is(2, () -> tube.line(0, 0, false));
        is(3, () -> tube.line(0, 0, true));
        is(INDEX, () -> tube.frame(2, 0, 3));
    }

    private static void undoAndRedo() {
        about("12 undo, 13 redo");
        TurnBoard x = told("group 1 6;size 2 1;east 1 0 4");
        is(false, x::undo);
        is(false, x::redo);
        x.set(0, 0, false, 2);
        x.frame(1, 0, 3);
        x.set(0, 0, false, x.line(0, 0, false));
        x.frame(1, 0, 0);
        int east = x.line(0, 0, false);
        is(4, () -> x.count(10));
        is(true, x::undo);
        is(true, x::undo);
        is(east, () -> x.line(0, 0, false));
        is(true, x::undo);
        is(2, () -> x.line(0, 0, false));
        is(4, () -> x.line(1, 0, false));
        is(0, () -> x.line(1, 0, true));
        is(1, () -> x.count(10));
        is(3, () -> x.count(11));
        is(true, x::redo);
        is(east, () -> x.line(0, 0, false));
        is(3, () -> x.line(1, 0, true));
        x.set(1, 1, false, 1);
        is(false, x::redo);
        is(3, () -> x.count(10));
        tape(x, "shape 9");
        is(ARGUMENT, x::board);
        is(3, () -> x.count(10));
        tape(x, "from 0 0");
        is(0, () -> x.walk(0));
        is(3, () -> x.count(10));
        is(true, x::undo);
        tape(x, "");
        is(2, x::board);
        is(0, () -> x.count(10));
        is(0, () -> x.count(11));
        is(false, x::undo);
        is(false, x::redo);
    }

    private static void undoLimits() {
        about("12 undo, 13 redo: twenty");
        TurnBoard x = told("group 0 8");
        for (int i = 1; i <= 25; i++) {
            x.set(0, 0, false, i % 8);
            int done = Math.min(i, 20);
            is(done, () -> x.count(10));
        }
        for (int i = 24; i >= 5; i--) {
            int before = i % 8;
            is(true, x::undo);
            is(before, () -> x.line(0, 0, false));
        }
        is(false, x::undo);
        is(20, () -> x.count(11));
        for (int i = 6; i <= 25; i++) {
            int after = i % 8;
            is(true, x::redo);
            is(after, () -> x.line(0, 0, false));
        }
        is(false, x::redo);
        TurnBoard y = told("group 1 6;size 1 2");
        String[] held = new String[24];
        for (int i = 0; i < 24; i++) {
            held[i] = turns(y);
            if (i % 3 == 0) {
                y.frame(i % 2, i / 8, i % 5 + 1);
            } else {
                y.set(0, i / 8, i % 4 < 2 && i < 16, i % 6);
            }
        }
        for (int i = 23; i >= 4; i--) {
            String due = held[i];
            is(true, y::undo);
            is(due, () -> turns(y));
        }
        is(false, y::undo);
        x.undo();
        x.draw(4);
        is(false, x::undo);
        is(false, x::redo);
        x.image();
        x.frame(0, 0, 1);
        x.undo();
        x.back();
        is(0, () -> x.count(10));
        is(0, () -> x.count(11));
    }

    private static void walk() {
        about("14 walk");
        TurnBoard x = told("group 1 6;size 2 1;east 0 0 1;east 1 0 3;north 2 0 4;east 1 1 2");
        int far = x.by(x.by(x.by(1, 3), 4), x.turn(2, 0));
        is(far, () -> walk(x, "from 0 0;2 east;1 north; 001west", 0));
        is(0, () -> walk(x, "from 0 0;2 east;1 north;1 west", 1));
        is(4, () -> walk(x, " from0 0 ; 2 east;1 north;1 west ", 2));
        is(0, () -> walk(x, "from 2 1", 0));
        is(1, () -> walk(x, "from 2 1", 1));
        is(0, () -> walk(x, "from 2 1", 2));
        is(2, () -> walk(x, "from 1 0;1 west", 0));
        is(x.round(0, 0), () -> walk(x, "from 0 0;1 east;1 north;1 west;1 south", 0));
        is(1, () -> walk(x, "from 0 0;1 east;1 north;1 west;1 south", 1));
        is(ELEMENT, () -> walk(x, "from 0 0", 3));
        is(false, () -> x.end(1));
        is(ELEMENT, () -> walk(x, "from 0 0", -1));
        TurnBoard tube = told("group 0 5;size 3 2;shape 1;east 2 0 1;east 0 0 1");
        is(1, () -> walk(tube, "from 3 0;9 east", 1));
        is(1, () -> walk(tube, "from 0 0;9 east", 0));
        is(2, () -> walk(tube, "from 1 0;2 west;9 west", 0));
        TurnBoard closed = told("group 0 5;size 2 3;shape 2;north 0 2 1");
        is(1, () -> walk(closed, "from 0 0;3 north", 0));
        is(4, () -> walk(closed, "from 2 3;1 south", 0));
        is(1, () -> walk(closed, "from 2 3;1 south;2 north;2 east;1 south;1 north;1 south", 1));
        String twelve = "from 0 0" + ";1 east".repeat(12);
        is(12, () -> walk(closed, twelve, 2));
        is(108, () -> walk(closed, "from 0 0" + ";9 west".repeat(12), 2));
    }

    private static void walkFaults() {
        about("14 walk: wrong texts");
        TurnBoard x = told("size 2 1");
        wrongWalk(x, "", 0);
        wrongWalk(x, "  ", 2);
        wrongWalk(x, "fro 0 0", 0);
        wrongWalk(x, "from 3 0", 5);
        wrongWalk(x, "from 0 2", 7);
        wrongWalk(x, "from 0", 6);
        wrongWalk(x, "from 0 0 1 east", 9);
        wrongWalk(x, "from 0 0;", 9);
        wrongWalk(x, "from 0 0; east", 10);
        wrongWalk(x, "from 0 0;0 east", 9);
        wrongWalk(x, "from 0 0;10 east", 9);
        wrongWalk(x, "from 0 0;1", 10);
        wrongWalk(x, "from 0 0;1 eastward", 11);
        wrongWalk(x, "from 0 0;9 nowhere", 11);
        wrongWalk(x, "from 0 0;1 east; 2 east", 17);
        wrongWalk(x, "from 0 0;1 west", 9);
        wrongWalk(x, "from 0 0;1 south", 9);
        wrongWalk(x, "from 0 1;1 north", 9);
        String twelve = "from 0 0" + ";1 east;1 west".repeat(6);
        wrongWalk(x, twelve + "; 1 east", 94);
        wrongWalk(x, twelve + "; ", 94);
        wrongWalk(x, twelve + " 1 east", 93);
        is(false, () -> x.end(1));
        TurnBoard tube = told("size 2 1;shape 1");
        wrongWalk(tube, "from 0 0;2 east;2 north", 16);
        wrongWalk(tube, "from 0 0;9 west;1 south", 16);
    }

    private static void worthAndTurned() {
        about("15 worth, 16 turned");
        TurnBoard x = told("group 0 3;size 2 2;weight 0 2;weight 1 5;weight 2 7;hole 1 1");
        is(8, x::worth);
        is(0, x::turned);
        x.set(0, 0, false, 1);
        is(20, x::worth);
        is(1, x::turned);
        x.set(1, 1, false, 1);
        is(70, x::worth);
        is(2, x::turned);
        tape(x, "weight 2 0");
        x.board();
        is(0, () -> {
            x.set(1, 1, false, 1);
            return x.worth();
        });
        TurnBoard most = told("size 3 3;weight 0 9");
        is(387420489L, most::worth);
    }

    private static void alike() {
        about("17 alike");
        TurnBoard x = told("group 1 6;size 2 1;shape 1;east 0 0 1;north 1 0 3");
        is(STATE, x::alike);
        x.image();
        is(true, x::alike);
        x.frame(0, 0, 4);
        x.frame(1, 1, 2);
        x.frame(1, 0, 5);
        is(true, x::alike);
        x.set(1, 0, false, x.by(x.line(1, 0, false), 1));
        is(false, x::alike);
        x.undo();
        is(true, x::alike);
        tape(x, "weight 0 4;hole 0 0");
        x.board();
        is(true, x::alike);
        TurnBoard y = told("group 0 4");
        y.image();
        tape(y, "group 0 5");
        y.board();
        is(false, y::alike);
        tape(y, "group 3 4");
        y.board();
        is(false, y::alike);
        tape(y, "group 0 4");
        y.board();
        is(true, y::alike);
        tape(y, "shape 1");
        y.board();
        is(false, y::alike);
        tape(y, "shape 0;size 1 2");
        y.board();
        is(false, y::alike);
        y.back();
        is(true, y::alike);
    }

    private static void sumAndListed() {
        about("18 sum, 19 listed");
        TurnBoard flat = told("group 0 3;size 2 2;weight 1 4;weight 2 0;hole 0 0");
        is(3 * 125, flat::sum);
        is(3 * 125, flat::listed);
        TurnBoard tube = told("group 1 6;size 3 3;shape 1;weight 3 2");
        is(6 * 387420489L, tube::sum);
        is(STATE, tube::listed);
        TurnBoard most = told("group 3 8;size 3 3;shape 2;weight 0 9;weight 1 9;weight 2 9;weight 3 9",
                "weight 4 9;weight 5 9;weight 6 9;weight 7 9");
        is((1L << 30) * 387420489L, most::sum);
        TurnBoard closed = told("group 2 8;size 2 2;shape 2;weight 1 3;weight 4 2;weight 5 7");
        is(4053504, closed::sum);
        is(4053504, closed::listed);
        TurnBoard one = told("group 1 8;shape 2;weight 0 5;weight 2 3");
        is(40 * 5 + 24 * 3, one::sum);
        is(40 * 5 + 24 * 3, one::listed);
        TurnBoard row = told("size 3 1;weight 1 6;hole 2 0");
        is(98, row::sum);
        is(98, row::listed);
        TurnBoard five = told("size 3 2");
        is(STATE, five::listed);
        is(64, five::sum);
        TurnBoard none = told("weight 0 0;weight 1 0");
        is(0, none::sum);
        is(0, none::listed);
    }

    private static void states() {
        about("20 states");
        TurnBoard flat = told("group 0 3;size 2 2;hole 1 1;weight 0 7;weight 1 0");
        int[] want = {3, 18, 36, 24, 0};
        for (int i = 0; i < want.length; i++) {
            int k = i;
            is(want[i], () -> flat.states(k));
        }
        is(0, () -> flat.states(-1));
        is(0, () -> flat.states(Integer.MAX_VALUE));
        is(0, () -> flat.states(Integer.MIN_VALUE));
        TurnBoard closed = told("size 2 1;shape 2");
        is(4, () -> closed.states(0));
        is(0, () -> closed.states(1));
        is(4, () -> closed.states(2));
        TurnBoard flips = told("group 1 8;shape 2");
        is(40, () -> flips.states(0));
        is(24, () -> flips.states(1));
    }

    private static void mean() {
        about("21 mean");
        String ring = "from 0 0;1 east;1 north;1 west;1 south";
        String other = "from 0 0;1 north;1 east;1 south;1 west";
        String wide = "from 2 1;2 west;1 south;2 east;1 north";
        TurnBoard x = told("group 0 3;size 2 1;weight 0 2;weight 1 5");
        is(1, () -> mean(x, ring, -1));
        is(2, () -> mean(x, wide, -1));
        is(5 * 8, () -> mean(x, ring, 1));
        is(1 * 8, () -> mean(x, other, 1));
        is(2 * 8, () -> mean(x, other, 0));
        is(2 * 2 + 2 * 5 * 1, () -> mean(x, wide, 0));
        is(2 * 2 + 25, () -> mean(x, wide, 2));
        is(2 * 2 + 25, () -> mean(x, "from 2 1;1 south;2 west;1 north;2 east", 1));
        tape(x, "hole 1 0");
        x.board();
        is(8, () -> mean(x, wide, 1));
        is(15, () -> mean(x, ring, 1));
        is(3 * 5, () -> mean(x, "from 0 1;1 south;1 east;1 north;1 west", 1));
        is(INDEX, () -> mean(x, ring, 3));
        is(INDEX, () -> mean(x, "from", -2));
        is(ARGUMENT, () -> mean(x, "from 0 0;1 north;1 north", 0));
        is(false, () -> x.end(1));
        is(STATE, () -> mean(x, "from 0 0", -1));
        is(STATE, () -> mean(x, "from 0 0;1 east;1 west", -1));
        is(STATE, () -> mean(x, "from 0 0;1 east;1 west;1 north;1 south", -1));
        is(STATE, () -> mean(x, "from 0 0;1 east;1 north;1 west", 0));
        is(STATE, () -> mean(x, ring + ";1 east;1 west", 0));
        is(STATE, () -> mean(x, ring + ";1 east;1 north;1 west;1 south", 0));
        TurnBoard big = told("group 1 6;size 3 3;weight 3 4");
        String hook = "from 1 1;1 south;2 east;3 north;1 west;2 south;1 west";
        is(4, () -> mean(big, hook, -1));
        is(9, () -> mean(big, "from 0 0;3 east;3 north;3 west;3 south", -1));
        is(STATE, () -> mean(big, "from 0 0;2 east;1 north;1 west;1 south;1 west", 0));
        long all = big.sum();
        long together = 0;
        for (int kin = 0; kin < 3; kin++) {
            together += (Long) mean(big, hook, kin);
        }
        long meant = together;
        is(all, () -> meant);
        TurnBoard tube = told("size 3 1;shape 1");
        is(STATE, () -> mean(tube, ring, -1));
        is(STATE, () -> mean(tube, "from 0 0;3 east", 0));
    }

    private static void rests() {
        about("22 rests");
        TurnBoard flat = told("group 1 8;size 3 3;hole 1 1;east 0 0 3");
        is(1, () -> flat.rests(false));
        is(1, () -> flat.rests(true));
        TurnBoard tube = told("group 1 8;size 3 3;shape 1;hole 0 0");
        is(8, () -> tube.rests(false));
        is(5, () -> tube.rests(true));
        TurnBoard closed = told("group 1 6;size 3 2;shape 2;hole 0 0;weight 0 0");
        is(18, () -> closed.rests(false));
        is(8, () -> closed.rests(true));
        TurnBoard four = told("group 2 8;shape 2");
        is(40, () -> four.rests(false));
        is(22, () -> four.rests(true));
        TurnBoard round = told("group 0 7;shape 2");
        is(49, () -> round.rests(true));
    }

    private static void body() {
        about("23 body");
        TurnBoard x = told("group 2 8;weight 0 2;weight 1 3;size 2 2;hole 0 0");
        is(1, () -> x.body(0, 0, 0));
        is(2, () -> x.body(1, 0, 0));
        is(4 + 2 * 9 + 1 + 4, () -> x.body(2, 0, 0));
        is(40, () -> x.body(0, 1, 0));
        is(2, () -> x.body(0, 0, 1));
        is(2 * 2 + 6, () -> x.body(1, 0, 1));
        is(40 * 2 + 24, () -> x.body(1, 1, 0));
        is(40 * 40 + 24 * 24, () -> x.body(0, 2, 0));
        is(2 * 2 + 36, () -> x.body(0, 0, 2));
        is(ARGUMENT, () -> x.body(-1, 0, 0));
        is(ARGUMENT, () -> x.body(7, 0, 0));
        is(ARGUMENT, () -> x.body(0, -1, 0));
        is(ARGUMENT, () -> x.body(0, 3, 0));
        is(ARGUMENT, () -> x.body(0, 0, -1));
        is(ARGUMENT, () -> x.body(0, 0, 3));
        TurnBoard most = told("group 3 4;weight 0 9;weight 1 9;weight 2 9;weight 3 9");
        is(531441L * 1024 * 256 * 16, () -> most.body(6, 2, 2));
    }

    private static void dual() {
        about("24 dual, 25 dualSum");
        TurnBoard x = told("group 3 8;weight 0 1;weight 1 2;weight 2 3;weight 3 4;weight 4 5;weight 5 6;weight 6 7;weight 7 8",
                "size 2 1");
        int[] want = {36, -4, -8, 0, -16, 0, 0, 0};
        for (int i = 0; i < 8; i++) {
            int t = i;
            is(want[i], () -> x.dual(t));
        }
        is(INDEX, () -> x.dual(8));
        is(INDEX, () -> x.dual(-1));
        is(STATE, x::dualSum);
        tape(x, "shape 1");
        x.board();
        is(STATE, x::dualSum);
        tape(x, "shape 2");
        x.board();
        is(8 * (36 * 36 + 16 + 64 + 256), x::dualSum);
        is(8 * (36 * 36 + 16 + 64 + 256), x::sum);
        tape(x, "hole 0 0");
        x.board();
        is(8 * 8 * 36, x::dualSum);
        is(8 * 8 * 36, x::listed);
        tape(x, "hole 1 0");
        x.board();
        is(8 * 64, x::dualSum);
        TurnBoard round = told("group 0 8;shape 2");
        is(STATE, () -> round.dual(0));
        is(INDEX, () -> round.dual(8));
        is(STATE, round::dualSum);
    }

    private static void draw() {
        about("26 draw");
        TurnBoard x = told("group 1 6;size 2 2;weight 0 2;weight 1 3;weight 3 4;hole 1 0;east 0 0 3;north 0 0 2");
        int seed = -77;
        int[] weights = {2, 3, 3, 4, 4, 4};
        long worth = x.draw(seed);
        long want = 1;
        for (int i = 0; i < 4; i++) {
            seed = 1103515245 * seed + 12345;
            boolean hole = i == 1;
            int left = (seed >>> 16 & 0x7fff) % (hole ? 6 : 20);
            int turn = 0;
            while (left >= (hole ? 1 : weights[turn])) {
                left -= hole ? 1 : weights[turn];
                turn++;
            }
            want *= hole ? 1 : weights[turn];
            int due = turn;
            int at = i;
            is(due, () -> x.round(at % 2, at / 2));
        }
        is(want, () -> worth);
        is(want, x::worth);
        is(0, () -> x.line(0, 0, false));
        is(0, () -> x.line(1, 0, false));
        for (int i = 0; i < 6; i++) {
            int at = i;
            is(0, () -> x.line(at % 3, at / 3, true));
        }
        tape(x, "weight 0 0;weight 1 0;weight 3 0");
        x.board();
        x.set(0, 0, false, 1);
        is(STATE, () -> x.draw(1));
        is(1, () -> x.line(0, 0, false));
        is(1, () -> x.count(10));
        tape(x, "weight 4 1");
        x.board();
        is(1, () -> x.draw(Integer.MIN_VALUE));
        TurnBoard tube = told("shape 1");
        is(STATE, () -> tube.draw(1));
    }

    private static void imageAndBack() {
        about("27 image, 28 back");
        TurnBoard x = told("group 1 6;size 2 1;hole 1 0;weight 3 4;east 0 0 2");
        is(false, x::back);
        x.set(0, 0, false, 3);
        x.image();
        is(1, () -> x.count(10));
        tape(x, "group 0 3;size 1 1;shape 2");
        x.board();
        tape(x, "shape 7");
        is(ARGUMENT, x::board);
        x.feed(0x73697a65, 0x20332033, 0, 0, 0);
        is(true, x::back);
        is(1, () -> x.count(0));
        is(1, () -> x.count(1));
        is(6, () -> x.count(2));
        is(2, () -> x.count(4));
        is(0, () -> x.count(6));
        is(1, () -> x.count(9));
        is(0, () -> x.count(10));
        is(4, () -> x.turn(5, 6));
        is(3, () -> x.line(0, 0, false));
        is(6, x::fault);
        is(true, () -> x.end(8));
        is(2, x::board);
        is(3, () -> x.count(4));
        is(true, x::back);
        is(true, x::alike);
        x.set(0, 0, false, 1);
        x.image();
        x.set(0, 0, false, 2);
        is(true, x::back);
        is(1, () -> x.line(0, 0, false));
    }

    private static void count() {
        about("29 count");
        int[][] places = {{3, 2, 12, 17}, {3, 2, 9, 15}, {3, 2, 6, 12}};
        for (int shape = 0; shape <= 2; shape++) {
            TurnBoard x = told("group 1 8;size 3 2;shape " + shape + ";hole 2 1;hole 0 0");
            int[] want = {1, 1, 8, 5, 3, 2, shape, places[shape][2], places[shape][3], 2, 0, 0, 40};
            for (int i = 0; i < want.length; i++) {
                int what = i;
                is(want[i], () -> x.count(what));
            }
            is(-1, () -> x.count(13));
            is(-1, () -> x.count(-1));
        }
        TurnBoard one = told("shape 2");
        is(1, () -> one.count(7));
        is(2, () -> one.count(8));
    }

    private static void manyCalls() {
        about("many dear calls on one object");
        TurnBoard x = told("group 2 8;size 2 2;shape 2;weight 1 3;weight 4 2;weight 5 7");
        for (int i = 0; i < 160; i++) {
            x.set(i % 3, i / 3 % 3, i % 2 == 0, i % 8);
            x.frame(i % 3, i / 3 % 3, i * 5 % 8);
            is(4053504, i % 4 == 0 ? x::listed : x::sum);
        }
        is(20, () -> x.count(10));
    }
}
