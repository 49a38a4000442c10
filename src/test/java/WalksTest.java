/** WALKS, and MEANS of them: promises 14 and 21, and what is told of them under "Terms". */
public final class WalksTest extends Calls {
    private static final String RING = "from 0 0;1 east;1 north;1 west;1 south";

    public static void main(String[] args) {
        noWay();
        oneByTheNext();
        goingRound();
        closed();
        howMany();
        fromWhere();
        noLine();
        bounds();
        blanksAndWords();
        letters();
        moreMustCome();
        twelve();
        refusals();
        walkChangesNothing();
        noSuchWalk();
        noCornerTwice();
        fourLines();
        onlyFlat();
        noSuchKin();
        within();
        meanOfOne();
        meanOfMore();
        meanOtherWay();
        meanOfHoles();
        meanTogether();
        leftovers();
        finish("WalksTest");
    }

    private static void noWay() {
        about("at most 12 behind it: none, too");
        for (int shape = 0; shape <= 2; shape++) {
            TurnBoard x = told("size 2 1;shape " + shape);
            is(0, () -> walk(x, "from 2 1", 0));
            is(1, () -> walk(x, "from 2 1", 1));
            is(0, () -> walk(x, "from 2 1", 2));
            is(1, () -> walk(x, "  from  0  0  ", 1));
            is(1, () -> walk(x, "from0 0", 1));
        }
    }

    private static void oneByTheNext() {
        about("all TURNS, one by the next (of a LINE against it: AGAINST its TURN)");
        int[] group = {2, 8};
        TurnBoard x = told("group 2 8;size 2 2;east 0 0 1;east 1 0 4;north 2 0 5;north 2 1 7;east 1 2 6;east 0 2 3;north 0 1 2;north 0 0 4");
        int ahead = product(group, product(group, product(group, 1, 4), 5), 7);
        is(ahead, () -> walk(x, "from 0 0;2 east;2 north", 0));
        int west = product(group, product(group, ahead, against(group, 6)), against(group, 3));
        is(west, () -> walk(x, "from 0 0;2 east;2 north;2 west", 0));
        int south = product(group, product(group, west, against(group, 2)), against(group, 4));
        is(south, () -> walk(x, "from 0 0;2 east;2 north;2 west;2 south", 0));
        is(south, () -> walk(x, "from 0 0;1 east;1 east;1 north;1 north;1 west;1 west;1 south;1 south", 0));
        is(against(group, south), () -> walk(x, "from 0 0;2 north;2 east;2 south;2 west", 0));
        is(3, () -> walk(x, "from 1 0;1 west", 0));
        is(1, () -> walk(x, "from 0 0;1 east", 0));
        is(6, () -> walk(x, "from 0 1;1 south", 0));
        is(0, () -> walk(x, "from 0 1;1 south;1 north", 0));
        is(x.round(1, 1), () -> walk(x, "from 1 1;1 east;1 north;1 west;1 south", 0));
    }

    private static void goingRound() {
        about("X WIDE is X 0; if it is closed, Y HIGH is Y 0, too: a WALK goes on there");
        TurnBoard tube = told("group 0 8;size 3 2;shape 1;east 0 1 1;east 1 1 2;east 2 1 4");
        is(7, () -> walk(tube, "from 0 1;3 east", 0));
        is(7, () -> walk(tube, "from 2 1;3 east", 0));
        is(7, () -> walk(tube, "from 3 1;3 east", 0));
        is(5, () -> walk(tube, "from 2 1;2 east", 0));
        is(4, () -> walk(tube, "from 0 1;1 west", 0));
        is(4, () -> walk(tube, "from 3 1;1 west", 0));
        is(2, () -> walk(tube, "from 0 1;2 west", 0));
        is((7 * 3) % 8, () -> walk(tube, "from 0 1;9 east", 0));
        is(Math.floorMod(-7 * 3, 8), () -> walk(tube, "from 0 1;9 west", 0));
        is(0, () -> walk(tube, "from 0 0;2 north;2 south", 0));
        TurnBoard closed = told("group 0 8;size 2 3;shape 2;north 1 0 1;north 1 1 2;north 1 2 4;east 1 0 3");
        is(7, () -> walk(closed, "from 1 0;3 north", 0));
        is(5, () -> walk(closed, "from 1 2;2 north", 0));
        is(4, () -> walk(closed, "from 1 0;1 south", 0));
        is(4, () -> walk(closed, "from 1 3;1 south", 0));
        is(2, () -> walk(closed, "from 1 3;2 south", 0));
        is(Math.floorMod(-7 * 3, 8), () -> walk(closed, "from 1 3;9 south", 0));
        is(3, () -> walk(closed, "from 1 3;1 east", 0));
        is(5, () -> walk(closed, "from 2 3;1 west", 0));
        TurnBoard one = told("group 0 8;shape 2;east 0 0 3;north 0 0 1");
        is(27 % 8, () -> walk(one, "from 1 1;9 east", 0));
        is(7, () -> walk(one, "from 0 1;9 south", 0));
        is(1, () -> walk(one, "from 1 0;1 south", 1));
    }

    private static void closed() {
        about("It is CLOSED, if it ends where it began (CORNERS that are one are one)");
        TurnBoard flat = told("size 3 3");
        is(1, () -> walk(flat, RING, 1));
        is(0, () -> walk(flat, "from 0 0;3 east", 1));
        is(0, () -> walk(flat, "from 0 0;3 north", 1));
        is(1, () -> walk(flat, "from 3 3;3 west;3 south;3 east;3 north", 1));
        is(1, () -> walk(flat, "from 1 1;1 west;1 east", 1));
        is(0, () -> walk(flat, "from 1 1;1 west;1 east;1 south", 1));
        is(0, () -> walk(flat, "from 0 0;1 east;1 north", 1));
        TurnBoard tube = told("size 3 3;shape 1");
        is(1, () -> walk(tube, "from 0 0;3 east", 1));
        is(1, () -> walk(tube, "from 3 2;9 west", 1));
        is(1, () -> walk(tube, "from 3 2;3 east", 1));
        is(0, () -> walk(tube, "from 0 0;4 east", 1));
        is(0, () -> walk(tube, "from 0 0;3 north", 1));
        TurnBoard closed = told("size 3 3;shape 2");
        is(1, () -> walk(closed, "from 0 0;3 north", 1));
        is(1, () -> walk(closed, "from 3 3;3 south", 1));
        is(1, () -> walk(closed, "from 3 0;6 north;3 west", 1));
        is(0, () -> walk(closed, "from 3 0;6 north;2 west", 1));
        is(1, () -> walk(closed, "from 3 3;1 east;1 west", 1));
    }

    private static void howMany() {
        about("2 how many LINES it goes");
        TurnBoard x = told("size 3 2;shape 2");
        is(1, () -> walk(x, "from 0 0;1 east", 2));
        is(9, () -> walk(x, "from 0 0;9 south", 2));
        is(14, () -> walk(x, "from 0 0;9 south;4 west;1 east", 2));
        is(108, () -> walk(x, "from 0 0" + ";9 north".repeat(12), 2));
    }

    private static void fromWhere() {
        about("(X 0 to WIDE, Y 0 to HIGH.)");
        for (int shape = 0; shape <= 2; shape++) {
            TurnBoard x = told("size 2 1;shape " + shape);
            is(1, () -> walk(x, "from 2 1", 1));
            is(1, () -> walk(x, "from 000 001", 1));
            wrongWalk(x, "from 3 1", 5);
            wrongWalk(x, "from 3 9", 5);
            wrongWalk(x, "from 2 2", 7);
            wrongWalk(x, "from 2 2;9 east", 7);
            wrongWalk(x, "from 4", 5);
            wrongWalk(x, "from 0002 1", 5);
            wrongWalk(x, "from 2 0001", 7);
        }
        TurnBoard big = told("size 3 3");
        is(1, () -> walk(big, "from 3 3", 1));
        wrongWalk(big, "from 4 3", 5);
        wrongWalk(big, "from 3 4", 7);
    }

    private static void noLine() {
        about("Where there is no LINE, the N is wrong");
        TurnBoard flat = told("size 2 1");
        wrongWalk(flat, "from 0 0;3 east", 9);
        wrongWalk(flat, "from 0 0;2 east;  1 east", 18);
        wrongWalk(flat, "from 2 0;1 east", 9);
        wrongWalk(flat, "from 0 0;1 west", 9);
        wrongWalk(flat, "from 0 0;1 south", 9);
        wrongWalk(flat, "from 0 1;1 north", 9);
        wrongWalk(flat, "from 2 1;1 north;x", 9);
        wrongWalk(flat, "from 2 0;3 west", 9);
        wrongWalk(flat, "from 2 1;2 south", 9);
        wrongWalk(flat, "from 0 0;1 east;1 north;1 north;1 south", 24);
        is(2, () -> walk(flat, "from 0 0;2 east", 2));
        is(3, () -> walk(flat, "from 0 1;2 east;1 south", 2));
        TurnBoard tube = told("size 2 1;shape 1");
        wrongWalk(tube, "from 0 0;1 south", 9);
        wrongWalk(tube, "from 0 0;9 east;2 north", 16);
        wrongWalk(tube, "from 0 1;1 north", 9);
        wrongWalk(tube, "from 2 1;9 west;1 south;001 south", 24);
        is(10, () -> walk(tube, "from 2 1;9 west;1 south", 2));
        TurnBoard closed = told("shape 2");
        is(36, () -> walk(closed, "from 1 1;9 west;9 south;9 east;9 north", 2));
    }

    private static void bounds() {
        about("N: 1 to 9");
        TurnBoard x = told("shape 2");
        is(1, () -> walk(x, "from 0 0;1 east", 2));
        is(9, () -> walk(x, "from 0 0;9 east", 2));
        is(9, () -> walk(x, "from 0 0;009 east", 2));
        wrongWalk(x, "from 0 0;0 east", 9);
        wrongWalk(x, "from 0 0;10 east", 9);
        wrongWalk(x, "from 0 0;999 east", 9);
        wrongWalk(x, "from 0 0;0009 east", 9);
        wrongWalk(x, "from 0 0;0 nowhere", 9);
        wrongWalk(x, "from 0 0;4294967297 east", 9);
        wrongWalk(x, "from 0 0;-1 east", 9);
    }

    private static void blanksAndWords() {
        about("A WALK is a text: words and blanks are as in all texts");
        TurnBoard x = told("size 2 2");
        is(4, () -> walk(x, "  from  0  0  ;  2  east  ;  2  north  ", 2));
        is(4, () -> walk(x, "from0 0;2east;2north", 2));
        wrongWalk(x, "From 0 0", 0);
        wrongWalk(x, "fro 0 0", 0);
        wrongWalk(x, "froms 0 0", 0);
        wrongWalk(x, " size 2 2", 1);
        wrongWalk(x, "east 0 0 1", 0);
        wrongWalk(x, "0 0", 0);
        wrongWalk(x, ";", 0);
        wrongWalk(x, "from 0 0;1 eas", 11);
        wrongWalk(x, "from 0 0;1 easts", 11);
        wrongWalk(x, "from 0 0;1 East", 11);
        wrongWalk(x, "from 0 0;1 up", 11);
        wrongWalk(x, "from 0 0;9 up", 11);
        wrongWalk(x, "from 0 0;1 1", 11);
        wrongWalk(x, "from 0 0;east", 9);
        wrongWalk(x, "from 0 0 ;; 1 east", 10);
        wrongWalk(x, "from 0 0 1 east", 9);
        wrongWalk(x, "from 0 0,1 east", 8);
        wrongWalk(x, "from 0 0;1 east 1", 16);
        wrongWalk(x, "from 0 0;1 east x", 16);
        wrongWalk(x, "from 0 0;1 east,", 15);
        wrongWalk(x, "from x", 5);
        wrongWalk(x, "from 0 x", 7);
        wrongWalk(x, "from 0;0", 6);
        wrongWalk(x, "from 0\t0", 6);
        wrongWalk(x, "from 0 0\0", 8);
    }

    private static void letters() {
        about("a word of a WALK that is none: by one letter");
        for (String way : new String[] {"east", "north", "west", "south"}) {
            TurnBoard x = told("shape 2");
            for (int i = 0; i < way.length(); i++) {
                wrongWalk(x, "from 0 0;1 " + way.substring(0, i) + "q" + way.substring(i + 1), 11);
                wrongWalk(x, "from 0 0;1 " + way.substring(0, i) + way.substring(i + 1), 11);
                wrongWalk(x, "from 0 0;1 " + way.substring(0, i) + way.charAt(i) + way.substring(i), 11);
                wrongWalk(x, "from 0 0;1 " + way.substring(0, i) + (char) (way.charAt(i) - 32) + way.substring(i + 1), 11);
            }
            is(1, () -> walk(x, "from 0 0;1 " + way, 2));
        }
        TurnBoard x = new TurnBoard();
        wrongWalk(x, "qrom 0 0", 0);
        wrongWalk(x, "fqom 0 0", 0);
        wrongWalk(x, "frqm 0 0", 0);
        wrongWalk(x, "froq 0 0", 0);
        wrongWalk(x, "rom 0 0", 0);
    }

    private static void moreMustCome() {
        about("of a WALK the text's length, if more must come");
        TurnBoard x = told("size 2 2");
        wrongWalk(x, "", 0);
        wrongWalk(x, "   ", 3);
        wrongWalk(x, "from", 4);
        wrongWalk(x, "from  ", 6);
        wrongWalk(x, "from 0", 6);
        wrongWalk(x, "from 0 ", 7);
        wrongWalk(x, "from 0 0;", 9);
        wrongWalk(x, "from 0 0 ; ", 11);
        wrongWalk(x, "from 0 0;1", 10);
        wrongWalk(x, "from 0 0;1  ", 12);
        wrongWalk(x, "from 0 0;9", 10);
        wrongWalk(x, "from 0 0;1 east;", 16);
        wrongWalk(x, "from 0 0;1 east;1", 17);
    }

    private static void twelve() {
        about("at most 12 behind it; where it is a 13th, the N is wrong");
        TurnBoard x = told("shape 2");
        String eleven = "from 0 0" + ";1 east".repeat(11);
        is(11, () -> walk(x, eleven, 2));
        is(12, () -> walk(x, eleven + ";1 east", 2));
        is(12, () -> walk(x, eleven + " ; 1 east ", 2));
        is(20, () -> walk(x, eleven + ";9 west", 2));
        wrongWalk(x, eleven + ";1 east;1 east", 93);
        wrongWalk(x, eleven + ";1 east;   1 east", 96);
        wrongWalk(x, eleven + ";1 east;0 east", 93);
        wrongWalk(x, eleven + ";1 east;1 up", 93);
        wrongWalk(x, eleven + ";1 east;1", 93);
        wrongWalk(x, eleven + ";1 east;", 93);
        wrongWalk(x, eleven + ";1 east;  ", 95);
        wrongWalk(x, eleven + ";1 east;east", 93);
        wrongWalk(x, eleven + ";1 east 1 east", 93);
        wrongWalk(x, eleven + ";1 up;1 east", 88);
    }

    private static void refusals() {
        about("IllegalArgumentException: the text is wrong; NoSuchElementException: another what");
        TurnBoard x = told("size 2 2");
        for (int what : new int[] {-1, 3, 4, Integer.MAX_VALUE, Integer.MIN_VALUE}) {
            is(ELEMENT, () -> walk(x, RING, what));
            is(-1, x::fault);
            is(ARGUMENT, () -> walk(x, RING + ";1 south", what));
            is(39, x::fault);
            is(false, () -> x.end(1));
        }
    }

    private static void walkChangesNothing() {
        about("a WALK and a MEAN leave the state, and what can be undone and redone");
        TurnBoard x = told("group 1 6;size 2 2;weight 3 4");
        x.set(0, 0, false, 3);
        x.set(0, 0, true, 2);
        x.undo();
        String before = look(x);
        is(3, () -> walk(x, RING, 0));
        wrongWalk(x, "from 7", 5);
        is(1, () -> mean(x, RING, -1));
        is(STATE, () -> mean(x, "from 0 0", 0));
        is(ARGUMENT, () -> mean(x, "", 0));
        is(INDEX, () -> mean(x, RING, 3));
        x.worth();
        x.listed();
        is(before, () -> look(x));
        is(true, x::redo);
    }

    private static void noSuchWalk() {
        about("MEAN of a WALK that is CLOSED");
        TurnBoard x = told("size 3 3");
        is(STATE, () -> mean(x, "from 0 0;3 east;3 north;3 west;2 south", 0));
        is(STATE, () -> mean(x, "from 0 0;1 east;1 north;1 west", -1));
        is(STATE, () -> mean(x, "from 0 0;3 east;1 north", 1));
        is(STATE, () -> mean(x, "from 0 0;2 east;2 north", -1));
        is(ARGUMENT, () -> mean(x, "from 0 0;4 east", 1));
        is(9, x::fault);
        is(9, () -> mean(x, "from 0 0;3 east;3 north;3 west;3 south", -1));
    }

    private static void noCornerTwice() {
        about("comes to no CORNER twice, but to the first one at its end");
        TurnBoard x = told("size 3 3");
        is(STATE, () -> mean(x, RING + ";1 east;1 north;1 west;1 south", -1));
        is(STATE, () -> mean(x, RING + ";1 east;1 west", 0));
        is(STATE, () -> mean(x, RING + ";1 north;1 east;1 south;1 west", 0));
        is(STATE, () -> mean(x, "from 0 0;2 east;2 north;1 west;1 south;1 west;1 east;1 west;1 south", -1));
        is(STATE, () -> mean(x, "from 1 1;1 east;1 north;1 west;1 south;1 west;1 south;1 east;1 north", -1));
        is(STATE, () -> mean(x, "from 0 0;2 east;2 north;1 west;2 south;1 west", 0));
        is(STATE, () -> mean(x, "from 0 0;1 east;1 north;1 east;1 west;1 west;1 south", 0));
        is(STATE, () -> mean(x, "from 0 0;1 east;1 west;1 east;1 west", -1));
        is(STATE, () -> mean(x, "from 0 0;3 east;1 north;1 west;1 south;2 west", -1));
        is(2, () -> mean(x, "from 0 0;2 east;1 north;2 west;1 south", -1));
        is(STATE, () -> mean(x, "from 1 0;1 west;1 north;1 south;1 east", -1));
        is(STATE, () -> mean(x, "from 3 2;1 north;1 west;1 east;1 south", -1));
        is(STATE, () -> mean(x, "from 2 0;1 east;1 north;1 south;1 west", -1));
        is(STATE, () -> mean(x, "from 1 3;1 west;1 south;1 north;1 east", -1));
        for (int i = 0; i <= 2; i++) {
            for (int j = 0; j <= 2; j++) {
                String first = "from " + i + " " + j + ";";
                is(STATE, () -> mean(x, first + "1 east;1 west;1 north;1 south", -1));
                is(STATE, () -> mean(x, first + "1 north;1 east;1 west;1 south", 0));
                is(1, () -> mean(x, first + "1 east;1 north;1 west;1 south", -1));
            }
        }
    }

    private static void fourLines() {
        about("has 4 LINES at least");
        TurnBoard x = told("size 3 3");
        is(STATE, () -> mean(x, "from 1 1", -1));
        is(STATE, () -> mean(x, "from 1 1;1 east;1 west", -1));
        is(STATE, () -> mean(x, "from 1 1;1 north;1 south", 0));
        is(STATE, () -> mean(x, "from 0 0;2 east;2 west", 0));
        is(1, () -> mean(x, "from 1 1;1 north;1 east;1 south;1 west", -1));
    }

    private static void onlyFlat() {
        about("IllegalStateException: the BOARD is not flat");
        for (int shape = 1; shape <= 2; shape++) {
            TurnBoard x = told("size 3 3;shape " + shape);
            is(STATE, () -> mean(x, RING, 0));
            is(STATE, () -> mean(x, RING, -1));
            is(STATE, () -> mean(x, "from 0 0;3 east", 0));
            is(false, () -> x.end(1));
            is(ARGUMENT, () -> mean(x, "from 0 0;3", 0));
            is(INDEX, () -> mean(x, RING, 2));
        }
    }

    private static void noSuchKin() {
        about("IndexOutOfBoundsException: there is no such KIN; by a KIN, or (NONE) WITHIN");
        TurnBoard x = told("group 1 8;size 3 1");
        int[] none = {5, 6, 7, 8, -2, -3, Integer.MAX_VALUE, Integer.MIN_VALUE};
        for (int kin : none) {
            is(INDEX, () -> mean(x, RING, kin));
            is(-1, x::fault);
            is(false, () -> x.end(1));
            is(INDEX, () -> mean(x, "from 0 0;7", kin));
            is(10, x::fault);
            is(INDEX, () -> mean(x, "from 0 0", kin));
        }
        is(2 * 64, () -> mean(x, RING, 4));
        is(64, () -> mean(x, RING, 0));
        is(1, () -> mean(x, RING, -1));
        for (int[] group : GROUPS) {
            TurnBoard y = told(group(group));
            int kins = y.count(3);
            is(INDEX, () -> mean(y, RING, kins));
            is(y.turn(group[1] - 1, 2), () -> mean(y, RING, kins - 1));
        }
    }

    private static void within() {
        about("WITHIN: how many SQUARES lie within");
        TurnBoard x = told("size 3 3;hole 0 0;hole 1 1;weight 1 0;weight 0 0");
        is(1, () -> mean(x, RING, -1));
        is(1, () -> mean(x, "from 0 0;1 north;1 east;1 south;1 west", -1));
        is(1, () -> mean(x, "from 3 3;1 west;1 south;1 east;1 north", -1));
        is(9, () -> mean(x, "from 3 3;3 west;3 south;3 east;3 north", -1));
        is(9, () -> mean(x, "from 1 0;1 west;3 north;3 east;3 south;2 west", -1));
        is(3, () -> mean(x, "from 0 2;3 east;1 north;3 west;1 south", -1));
        is(3, () -> mean(x, "from 0 0;2 east;1 north;1 west;1 north;1 west;2 south", -1));
        is(8, () -> mean(x, "from 0 0;3 east;1 north;1 west;1 north;1 east;1 north;3 west;3 south", -1));
        is(4, () -> mean(x, "from 0 0;3 east;1 north;2 west;1 north;1 west;2 south", -1));
        is(7, () -> mean(x, "from 0 0;1 east;2 north;1 east;2 south;1 east;3 north;3 west;3 south", -1));
    }

    private static void meanOfOne() {
        about("WORTH, together, of those by which what comes of it is of a KIN");
        TurnBoard x = told("group 1 6;weight 0 2;weight 1 3;weight 3 5");
        is(2, () -> mean(x, RING, 0));
        is(2 * 3, () -> mean(x, RING, 1));
        is(3 * 5, () -> mean(x, RING, 2));
        is(3 * 5, () -> mean(x, "from 1 1;1 west;1 south;1 east;1 north", 2));
        x.set(0, 0, false, 4);
        is(2, () -> mean(x, RING, 0));
        is(2, () -> board(x, "size 3 3"));
        long others = 1;
        for (int i = 0; i < 8; i++) {
            others *= 2 + 2 * 3 + 3 * 5;
        }
        long outside = others;
        is(2 * outside, () -> mean(x, RING, 0));
        is(6 * outside, () -> mean(x, "from 2 2;1 east;1 north;1 west;1 south", 1));
        is(15 * outside, () -> mean(x, "from 1 2;1 south;1 east;1 north;1 west", 2));
    }

    private static void meanOfMore() {
        about("by how many SQUARES lie within: of what any SQUARES have ROUND them, one by another");
        TurnBoard x = told("group 1 6;size 3 3;weight 0 2;weight 1 3;weight 3 5");
        long[] due = {1, 0, 0};
        int[] weights = {2, 3, 3, 5, 5, 5};
        int[] group = {1, 6};
        long[] ways = {1, 0, 0, 0, 0, 0};
        for (int i = 0; i < 9; i++) {
            long[] next = new long[6];
            for (int a = 0; a < 6; a++) {
                for (int b = 0; b < 6; b++) {
                    next[product(group, a, b)] += ways[a] * weights[b];
                }
            }
            ways = next;
        }
        due[0] = ways[0];
        due[1] = ways[1] + ways[2];
        due[2] = ways[3] + ways[4] + ways[5];
        for (int i = 0; i < 3; i++) {
            int kin = i;
            is(due[kin], () -> mean(x, "from 0 0;3 east;3 north;3 west;3 south", kin));
            is(due[kin], () -> mean(x, "from 3 0;3 west;3 north;3 east;3 south", kin));
        }
        is(due[0] + due[1] + due[2], x::sum);
    }

    private static void meanOtherWay() {
        about("MEAN of a WALK that goes the other way");
        TurnBoard x = told("group 0 5;size 2 2;weight 0 1;weight 1 2;weight 2 3;weight 3 4;weight 4 5");
        String other = "from 0 0;1 north;1 east;1 south;1 west";
        int[] due = {1, 2, 3, 4, 5};
        for (int i = 0; i < 5; i++) {
            int kin = i;
            is(due[kin] * 15 * 15 * 15, () -> mean(x, RING, kin));
            is(due[(5 - kin) % 5] * 15 * 15 * 15, () -> mean(x, other, kin));
            is(due[kin] * 15 * 15 * 15, () -> mean(x, "from 1 1;1 east;1 north;1 west;1 south", kin));
            is(due[(5 - kin) % 5] * 15 * 15 * 15, () -> mean(x, "from 2 1;1 west;1 north;1 east;1 south", kin));
        }
        long two = 0;
        for (int a = 0; a < 5; a++) {
            two += (a + 1) * ((6 - a) % 5 + 1);
        }
        long together = two;
        is(together * 15 * 15, () -> mean(x, "from 0 0;2 east;1 north;2 west;1 south", 1));
        is(together * 15 * 15, () -> mean(x, "from 0 0;1 north;2 east;1 south;2 west", 4));
    }

    private static void meanOfHoles() {
        about("of a HOLE all WEIGHTS are 1: within and outside");
        TurnBoard x = told("group 0 3;size 2 1;weight 0 2;weight 1 5;weight 2 7;hole 0 0");
        is(14, () -> mean(x, RING, 0));
        is(14, () -> mean(x, RING, 1));
        is(14, () -> mean(x, RING, 2));
        is(3 * 2, () -> mean(x, "from 1 0;1 east;1 north;1 west;1 south", 0));
        is(3 * 5, () -> mean(x, "from 1 0;1 east;1 north;1 west;1 south", 1));
        is(14, () -> mean(x, "from 0 0;2 east;1 north;2 west;1 south", 1));
        TurnBoard none = told("group 0 3;size 2 1;weight 0 0;weight 1 0;weight 2 0;hole 1 0");
        is(0, () -> mean(none, RING, 0));
        is(0, () -> mean(none, "from 1 0;1 east;1 north;1 west;1 south", 0));
    }

    private static void meanTogether() {
        about("MEANS by all KINS together are SUM");
        String hook = "from 1 1;1 south;2 east;3 north;1 west;2 south;1 west";
        for (int[] group : GROUPS) {
            TurnBoard x = told(group(group) + ";size 3 3;weight 0 3;weight 1 2;hole 2 2;hole 0 1;hole 1 0");
            long all = 0;
            for (int kin = 0; kin < x.count(3); kin++) {
                all += (Long) mean(x, hook, kin);
            }
            long together = all;
            is(x.sum(), () -> together);
            is(4, () -> mean(x, hook, -1));
        }
    }

    private static void leftovers() {
        about("the same MEAN, whatever GROUP and BOARD was ahead");
        for (int[] group : GROUPS) {
            String text = group(group) + ";size 2 2;weight 1 3";
            TurnBoard x = told("group 2 8;size 3 3;weight 0 7;weight 1 5;weight 4 8;weight 5 6;hole 2 2");
            TurnBoard y = told(text);
            x.sum();
            mean(x, "from 0 0;3 east;3 north;3 west;3 south", 4);
            board(x, text);
            for (int i = -1; i < y.count(3); i++) {
                int kin = i;
                is(mean(y, RING, kin), () -> mean(x, RING, kin));
                is(mean(y, "from 1 2;1 east;2 south;1 west;2 north", kin), () -> mean(x, "from 1 2;1 east;2 south;1 west;2 north", kin));
            }
        }
    }
}
