import java.util.ArrayList;
import java.util.List;

/** TURNS of all GROUPS, sentence by sentence: promises 6 and 7, and what is told under "Terms". */
public final class TurnsTest extends Calls {
    /** By GROUPS: the KIN of each TURN, and how many KINS there are. */
    private static final int[][] KINS = {
        {0, 1}, {0, 1, 2}, {0, 1, 2, 3}, {0, 1, 2, 3, 4}, {0, 1, 2, 3, 4, 5}, {0, 1, 2, 3, 4, 5, 6},
        {0, 1, 2, 3, 4, 5, 6, 7},
        {0, 1, 2, 3}, {0, 1, 1, 2, 2, 2}, {0, 1, 2, 1, 3, 4, 3, 4},
        {0, 1, 2, 1, 3, 4, 3, 4},
        {0, 1}, {0, 1, 2, 3}, {0, 1, 2, 3, 4, 5, 6, 7},
    };
    private static final int[] FAR = {-1, 8, 9, Integer.MIN_VALUE, Integer.MAX_VALUE, 1 << 16, -8};

    public static void main(String[] args) {
        atFirst();
        for (int i = 0; i < GROUPS.length; i++) {
            products(GROUPS[i]);
            noSuchTurns(GROUPS[i]);
            againstThem(GROUPS[i]);
            kins(GROUPS[i], KINS[i]);
            timesToRest(GROUPS[i]);
            commutatorsAndRoots(GROUPS[i]);
            pairs(GROUPS[i]);
            weights(GROUPS[i], KINS[i]);
        }
        goingRound();
        otherWhats();
        finish("TurnsTest");
    }

    private static void atFirst() {
        about("A GROUP (at first that of KIND 0 and ORDER 2)");
        TurnBoard x = new TurnBoard();
        is(0, () -> x.count(1));
        is(2, () -> x.count(2));
        is(2, () -> x.count(3));
        is(1, () -> x.by(0, 1));
        is(0, () -> x.by(1, 1));
        is(INDEX, () -> x.by(2, 0));
        is(INDEX, () -> x.by(0, 2));
    }

    private static void products(int[] group) {
        about("A by B in " + group(group));
        TurnBoard x = told(group(group));
        is(group[0], () -> x.count(1));
        is(group[1], () -> x.count(2));
        for (int a = 0; a < group[1]; a++) {
            for (int b = 0; b < group[1]; b++) {
                int first = a;
                int next = b;
                is(product(group, a, b), () -> x.by(first, next));
            }
        }
    }

    private static void noSuchTurns(int[] group) {
        about("TURNS 0 to ORDER less 1 in " + group(group));
        TurnBoard x = told(group(group));
        int order = group[1];
        int[] none = {order, -1, Integer.MAX_VALUE, Integer.MIN_VALUE, order + 8};
        for (int t : none) {
            is(INDEX, () -> x.by(t, 0));
            is(INDEX, () -> x.by(0, t));
            is(INDEX, () -> x.by(t, t));
            is(INDEX, () -> x.turn(t, 0));
            is(INDEX, () -> x.turn(t, 6));
            is(INDEX, () -> x.turn(t, 7));
            is(INDEX, () -> x.set(0, 0, false, t));
            is(INDEX, () -> x.frame(0, 0, t));
            is(INDEX, () -> x.dual(t));
        }
        is(0, () -> x.set(0, 0, false, order - 1));
        is(order - 1, () -> x.line(0, 0, false));
        is(0, () -> x.frame(1, 1, 0));
        wrongText(x, "weight " + order + " 1", 7);
        wrongText(x, "east 0 0 " + order, 9);
        is(2, () -> board(x, "weight " + (order - 1) + " 1;east 0 0 " + (order - 1)));
    }

    private static void againstThem(int[] group) {
        about("AGAINST A: the TURN by which A is REST, in " + group(group));
        TurnBoard x = told(group(group));
        for (int a = 0; a < group[1]; a++) {
            int t = a;
            is(against(group, t), () -> x.turn(t, 0));
            is(0, () -> x.by(t, x.turn(t, 0)));
        }
    }

    private static void kins(int[] group, int[] kins) {
        about("KINS are numbered from 0 on by their least TURNS, in " + group(group));
        TurnBoard x = told(group(group));
        int most = 0;
        for (int a = 0; a < group[1]; a++) {
            int t = a;
            int size = 0;
            for (int kin : kins) {
                size += kin == kins[a] ? 1 : 0;
            }
            most = Math.max(most, kins[a]);
            is(kins[a], () -> x.turn(t, 1));
            is(size, () -> x.turn(t, 2));
        }
        is(most + 1, () -> x.count(3));
    }

    private static void timesToRest(int[] group) {
        about("how often by itself (once at least) it is REST, in " + group(group));
        TurnBoard x = told(group(group));
        for (int a = 0; a < group[1]; a++) {
            int t = a;
            int times = 1;
            for (int reached = a; reached != 0; reached = product(group, reached, a)) {
                times++;
            }
            is(times, () -> x.turn(t, 3));
        }
        is(1, () -> x.turn(0, 3));
    }

    private static void commutatorsAndRoots(int[] group) {
        about("COMMUTATORS and ROOTS of T, in " + group(group));
        TurnBoard x = told(group(group));
        int[] commutators = new int[8];
        int[] roots = new int[8];
        for (int a = 0; a < group[1]; a++) {
            roots[product(group, a, a)]++;
            for (int b = 0; b < group[1]; b++) {
                int ahead = product(group, a, b);
                int behind = product(group, against(group, a), against(group, b));
                commutators[product(group, ahead, behind)]++;
            }
        }
        for (int a = 0; a < group[1]; a++) {
            int t = a;
            is(commutators[t], () -> x.turn(t, 4));
            is(roots[t], () -> x.turn(t, 5));
        }
    }

    private static void pairs(int[] group) {
        about("12 pairs A, B (of all) for which A by B is B by A, in " + group(group));
        int pairs = 0;
        for (int a = 0; a < group[1]; a++) {
            for (int b = 0; b < group[1]; b++) {
                pairs += product(group, a, b) == product(group, b, a) ? 1 : 0;
            }
        }
        is(pairs, () -> told(group(group)).count(12));
    }

    private static void weights(int[] group, int[] kins) {
        about("weight: of all KIN of T, in " + group(group));
        for (int told = 0; told < group[1]; told++) {
            TurnBoard x = told(group(group) + ";weight " + told + " 9");
            for (int a = 0; a < group[1]; a++) {
                int t = a;
                is(kins[t] == kins[told] ? 9 : 1, () -> x.turn(t, 6));
            }
            is(2, () -> board(x, group(group)));
            for (int a = 0; a < group[1]; a++) {
                int t = a;
                is(1, () -> x.turn(t, 6));
            }
        }
    }

    private static void goingRound() {
        about("A and B, modulo ORDER");
        is(0, () -> told("group 0 8").by(7, 1));
        is(6, () -> told("group 0 8").by(7, 7));
        is(0, () -> told("group 0 3").by(2, 1));
        about("(K, F) by (L, G) is K and L (if F is 1: K less L) modulo M");
        is(0, () -> told("group 1 8").by(3, 1));
        is(7, () -> told("group 1 8").by(4, 1));
        is(3, () -> told("group 1 8").by(4, 5));
        is(2, () -> told("group 1 4").by(3, 1));
        about("if F and G both are 1, K is 2 more (modulo 4)");
        is(2, () -> told("group 2 8").by(4, 4));
        is(1, () -> told("group 2 8").by(4, 5));
        is(0, () -> told("group 2 8").by(6, 4));
        is(7, () -> told("group 2 8").by(4, 1));
        is(6, () -> told("group 2 8").by(4, 2));
        about("each bit of A by B is that of A and B, modulo 2");
        is(0, () -> told("group 3 8").by(7, 7));
        is(7, () -> told("group 3 8").by(5, 2));
        about("KIND 1: ORDER 4, 6, 8; KIND 2: ORDER 8; KIND 3: ORDER 2, 4, 8; KIND 0: ORDER 2 to 8");
        List<String> found = new ArrayList<>();
        for (int kind = 0; kind <= 9; kind++) {
            for (int order = 0; order <= 17; order++) {
                TurnBoard x = new TurnBoard();
                tape(x, "group " + kind + " " + order);
                try {
                    x.board();
                    found.add(x.count(1) + " " + x.count(2));
                } catch (IllegalArgumentException e) {
                    is(2, () -> x.count(2));
                }
            }
        }
        List<String> due = new ArrayList<>();
        for (int[] group : GROUPS) {
            due.add(group[0] + " " + group[1]);
        }
        is(due, () -> found);
    }

    private static void otherWhats() {
        about("NoSuchElementException: another what");
        TurnBoard x = told("group 1 8");
        for (int what : new int[] {-1, 7, 8, Integer.MAX_VALUE, Integer.MIN_VALUE}) {
            is(ELEMENT, () -> x.turn(0, what));
            is(ELEMENT, () -> x.turn(7, what));
            is(INDEX, () -> x.turn(8, what));
            is(INDEX, () -> x.turn(-1, what));
        }
        for (int t : FAR) {
            is(INDEX, () -> x.turn(t, 3));
        }
        is(1, () -> x.turn(7, 6));
    }
}
