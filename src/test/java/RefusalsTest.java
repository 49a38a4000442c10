import java.util.function.Function;

/** What is told of several exceptions at once, and of what a call that throws changes. */
public final class RefusalsTest extends Calls {
    private static final String RING = "from 0 0;1 east;1 north;1 west;1 south";
    private static final String WRONG = "from 0 0;1";

    public static void main(String[] args) {
        toldFirst();
        nothingIsChanged();
        tapeStays();
        textsAreRead();
        farNumbers();
        manyCalls();
        finish("RefusalsTest");
    }

    private static void toldFirst() {
        about("Of several exceptions the one told first is thrown");
        TurnBoard x = told("group 1 6;size 3 2;shape 1");
        is(INDEX, () -> x.turn(6, 7));
        is(INDEX, () -> x.dual(6));
        is(STATE, () -> x.dual(5));
        is(ARGUMENT, () -> walk(x, WRONG, 3));
        is(ELEMENT, () -> walk(x, RING, 3));
        is(INDEX, () -> mean(x, WRONG, 3));
        is(INDEX, () -> mean(x, RING, 3));
        is(ARGUMENT, () -> mean(x, WRONG, 2));
        is(ARGUMENT, () -> mean(x, WRONG, -1));
        is(STATE, () -> mean(x, RING, -1));
        for (int i = 2; i <= 12; i++) {
            x.board();
        }
        is(ARGUMENT, () -> board(x, "size 2"));
        is(UNSUPPORTED, () -> board(x, "size 2 2"));
    }

    private static TurnBoard inUse() {
        TurnBoard x = told("group 1 6;size 3 2;shape 1;weight 3 4;weight 1 0;hole 2 0;east 1 1 4;north 0 1 2");
        x.image();
        x.set(3, 1, true, 5);
        x.frame(1, 1, 3);
        x.set(0, 0, false, 2);
        x.undo();
        tape(x, WRONG);
        return x;
    }

    private static void unchanged(Object due, boolean usesTape, int fault, Function<TurnBoard, Object> call) {
        TurnBoard x = inUse();
        String before = look(x);
        is(due, () -> call.apply(x));
        is(fault, x::fault);
        is(before, () -> look(x));
        is(!usesTape, () -> x.end(WRONG.length()));
        is(true, x::redo);
        is(true, x::undo);
        is(true, x::undo);
        is(true, x::undo);
        is(true, x::alike);
        is(false, x::undo);
    }

    private static void nothingIsChanged() {
        about("a call that throws changes nothing but the TAPE, where it is used up, and fault(), where a text is read");
        unchanged(ARGUMENT, true, 0, x -> x.board());
        unchanged(INDEX, false, -1, x -> x.by(6, 0));
        unchanged(INDEX, false, -1, x -> x.by(0, -1));
        unchanged(INDEX, false, -1, x -> x.turn(6, 0));
        unchanged(ELEMENT, false, -1, x -> x.turn(5, 7));
        unchanged(INDEX, false, -1, x -> x.line(0, 2, true));
        unchanged(INDEX, false, -1, x -> x.line(4, 0, true));
        unchanged(INDEX, false, -1, x -> x.set(0, 2, true, 1));
        unchanged(INDEX, false, -1, x -> x.set(0, 0, true, 6));
        unchanged(INDEX, false, -1, x -> x.set(0, 0, true, -1));
        unchanged(INDEX, false, -1, x -> x.round(3, 0));
        unchanged(INDEX, false, -1, x -> x.round(0, 2));
        unchanged(INDEX, false, -1, x -> x.frame(0, 3, 1));
        unchanged(INDEX, false, -1, x -> x.frame(4, 0, 1));
        unchanged(INDEX, false, -1, x -> x.frame(0, 0, 6));
        unchanged(ARGUMENT, true, 10, x -> x.walk(0));
        unchanged(ARGUMENT, true, 10, x -> x.walk(3));
        unchanged(ELEMENT, true, -1, x -> walk(x, "from 0 0;1 east", -1));
        unchanged(STATE, false, -1, x -> x.listed());
        unchanged(INDEX, true, 10, x -> x.mean(3));
        unchanged(INDEX, true, -1, x -> mean(x, RING, -2));
        unchanged(ARGUMENT, true, 10, x -> x.mean(0));
        unchanged(STATE, true, -1, x -> mean(x, RING, 0));
        unchanged(STATE, true, -1, x -> mean(x, RING, -1));
        unchanged(ARGUMENT, false, -1, x -> x.body(7, 0, 0));
        unchanged(ARGUMENT, false, -1, x -> x.body(0, 3, 0));
        unchanged(ARGUMENT, false, -1, x -> x.body(0, 0, -1));
        unchanged(INDEX, false, -1, x -> x.dual(6));
        unchanged(STATE, false, -1, x -> x.dual(0));
        unchanged(STATE, false, -1, x -> x.dualSum());
        unchanged(STATE, false, -1, x -> x.draw(1));
        about("a text that is wrong, from any of its LINES on, changes nothing but the TAPE and fault()");
        String[] right = {"group 2 8", "group 1 6", "size 1 1", "size 3 2", "shape 0", "shape 1", "weight 0 9", "hole 0 0", "east 0 0 1", "north 3 0 1"};
        for (String text : right) {
            unchanged(ARGUMENT, true, text.length() + 1, x -> board(x, text + ";"));
            unchanged(ARGUMENT, true, text.length() + 2, x -> board(x, text + " ;shap 1"));
        }
        about("where none was kept, alike and back change nothing");
        TurnBoard x = told("group 1 6;size 2 2;east 0 0 1");
        x.set(0, 0, false, 2);
        x.undo();
        String before = look(x);
        is(STATE, x::alike);
        is(false, x::back);
        is(before, () -> look(x));
    }

    private static void tapeStays() {
        about("all other calls leave the TAPE and fault()");
        TurnBoard x = told("group 3 4;size 2 2;weight 1 3");
        wrongText(x, "shape 3", 6);
        tape(x, "shape 2");
        x.by(1, 1);
        x.turn(1, 4);
        x.set(0, 0, false, 1);
        x.line(0, 0, false);
        x.round(0, 0);
        x.frame(1, 1, 2);
        x.undo();
        x.redo();
        x.worth();
        x.turned();
        x.sum();
        x.listed();
        x.states(1);
        x.rests(true);
        x.body(1, 1, 1);
        x.dual(1);
        x.draw(3);
        x.image();
        x.alike();
        x.back();
        x.count(3);
        is(6, x::fault);
        is(false, () -> x.end(8));
        is(true, () -> x.end(7));
        is(2, x::board);
        is(2, () -> x.count(6));
        is(-1, x::fault);
        tape(x, "shape 0");
        x.dualSum();
        is(3, x::board);
        is(0, () -> x.count(6));
    }

    private static void textsAreRead() {
        about("fault(), where a text is read (also by one that is refused)");
        TurnBoard x = told("size 2 1");
        wrongText(x, "shape 3", 6);
        is(ELEMENT, () -> walk(x, RING, 9));
        is(-1, x::fault);
        wrongText(x, "shape 3", 6);
        is(INDEX, () -> mean(x, RING, 9));
        is(-1, x::fault);
        is(INDEX, () -> mean(x, WRONG, 9));
        is(10, x::fault);
        is(STATE, () -> mean(x, "from 0 0", 0));
        is(-1, x::fault);
        for (int i = 2; i <= 12; i++) {
            x.board();
        }
        wrongText(x, "shape 3", 6);
        is(UNSUPPORTED, () -> board(x, "shape 1"));
        is(-1, x::fault);
    }

    private static void farNumbers() {
        about("the farthest numbers there are");
        int[] far = {Integer.MIN_VALUE, Integer.MAX_VALUE, Integer.MIN_VALUE + 1, -1 << 30, 1 << 30, -1 << 16, 65536, 256};
        for (int i : far) {
            TurnBoard x = told("group 3 8;size 3 3;shape 2");
            for (int j : far) {
                is(INDEX, () -> x.by(i, j));
                is(INDEX, () -> x.turn(i, j));
                is(INDEX, () -> x.line(i, j, true));
                is(INDEX, () -> x.line(i, j, false));
                is(INDEX, () -> x.set(i, j, true, i));
                is(INDEX, () -> x.set(0, 0, true, i));
                is(INDEX, () -> x.round(i, j));
                is(INDEX, () -> x.frame(i, j, 0));
                is(INDEX, () -> x.frame(0, 0, i));
                is(ARGUMENT, () -> x.body(i, j, 0));
                is(ARGUMENT, () -> x.body(0, 0, i));
            }
            is(INDEX, () -> x.dual(i));
            is(INDEX, () -> mean(x, "from 0 0", i));
            is(ELEMENT, () -> walk(x, "from 0 0", i));
            is(0, () -> x.states(i));
            is(-1, () -> x.count(i));
            is(false, () -> x.end(i));
            is(20, () -> x.feed(i, i, i, i, i));
            is(ARGUMENT, x::board);
            is(0, () -> x.count(10));
        }
    }

    private static void manyCalls() {
        about("An object is used for at most 512 calls");
        TurnBoard x = told("group 1 8;size 3 3;shape 2;weight 0 3;weight 4 2;hole 1 1");
        long sum = x.sum();
        x.image();
        for (int i = 0; i < 100; i++) {
            int t = i % 8;
            is(true, () -> x.set(2, 2, t % 2 == 0, t) >= 0);
            is(true, () -> x.frame(t % 4, t % 3, t) >= 0);
            is(true, x::undo);
            is(sum, x::sum);
        }
        is(19, () -> x.count(10));
        is(1, () -> x.count(11));
        is(true, x::back);
        is(true, x::alike);
        is(1, () -> x.count(0));
    }
}
