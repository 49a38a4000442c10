/** WORTH, sums over STATES, bodies, duals and DRAWS: promises 15, 16, 18 to 20 and 22 to 26. */
public final class SumsTest extends Calls {
    private static final int[] FLIPS = {1, 6};

    public static void main(String[] args) {
        worth();
        worthOfHoles();
        turned();
        leastAndMost();
        oneSquare();
        sumOfFrames();
        listedLimit();
        listedIsSum();
        linesDoNotMatter();
        leftovers();
        states();
        statesOfHoles();
        statesAreAll();
        statesLimits();
        restsOfShapes();
        restsHoles();
        bodyLimits();
        bodyOfNothing();
        bodyByListing();
        dualLimits();
        duals();
        dualSum();
        dualSumLimits();
        drawLimits();
        drawSeeds();
        drawHoles();
        drawLines();
        drawNone();
        finish("SumsTest");
    }

    private static void worth() {
        about("WORTH of the state: WEIGHTS of what is ROUND all SQUARES, multiplied");
        TurnBoard x = told("group 1 6;size 3 3;weight 0 1;weight 1 2;weight 3 3");
        is(1, x::worth);
        x.set(1, 1, false, 1);
        is(4, x::worth);
        x.set(3, 2, true, 4);
        is(12, x::worth);
        is(2, () -> board(x, "weight 0 9;weight 1 9;weight 5 9"));
        is(387420489L, x::worth);
        is(3, () -> board(x, "weight 2 0"));
        is(0, x::worth);
        TurnBoard tube = told("group 0 3;size 2 1;shape 1;weight 0 5;weight 1 2;weight 2 7");
        tube.set(2, 0, true, 1);
        is(14, tube::worth);
        TurnBoard one = told("group 2 8;shape 2;weight 0 5;weight 2 3");
        one.set(0, 0, false, 1);
        is(5, one::worth);
        one.set(1, 1, true, 4);
        is(3, one::worth);
    }

    private static void worthOfHoles() {
        about("of a HOLE all WEIGHTS are 1");
        TurnBoard x = told("group 0 3;size 2 2;weight 0 0;weight 1 6;hole 0 0;hole 1 0;hole 0 1;hole 1 1");
        is(1, x::worth);
        x.set(0, 0, false, 1);
        is(1, x::worth);
        is(0, () -> x.turn(0, 6));
        is(6, () -> x.turn(1, 6));
        is(81, x::sum);
        is(81, x::listed);
        TurnBoard y = told("group 0 3;size 2 1;weight 0 4;weight 1 6;hole 1 0");
        is(4, y::worth);
        y.set(0, 0, true, 2);
        is(6, y::worth);
        y.set(2, 0, true, 1);
        is(6, y::worth);
    }

    private static void turned() {
        about("TURNED: SQUARES (no HOLES) round which there is no REST");
        TurnBoard x = told("group 0 3;size 3 3;hole 1 1;hole 2 2");
        is(0, x::turned);
        x.set(1, 1, false, 1);
        is(1, x::turned);
        x.set(2, 2, false, 2);
        is(2, x::turned);
        x.set(0, 0, false, 2);
        is(3, x::turned);
        for (int i = 0; i < 3; i++) {
            x.set(i, 0, false, 1);
            x.set(i, 1, false, 2);
            x.set(i, 2, false, 0);
            x.set(i, 3, false, 1);
        }
        is(7, x::turned);
        TurnBoard all = told("size 1 2;hole 0 0;hole 0 1;east 0 0 1");
        is(0, all::turned);
    }

    private static long power(long base, int times) {
        long power = 1;
        for (int i = 0; i < times; i++) {
            power *= base;
        }
        return power;
    }

    private static String allWeights(int order, int weight) {
        StringBuilder text = new StringBuilder();
        for (int t = 0; t < order; t++) {
            text.append(t == 0 ? "" : ";").append("weight ").append(t).append(' ').append(weight);
        }
        return text.toString();
    }

    private static void leastAndMost() {
        about("all STATES, from the least BOARD to the greatest");
        for (int[] group : GROUPS) {
            for (int shape = 0; shape <= 2; shape++) {
                for (int size = 1; size <= 3; size += 2) {
                    TurnBoard x = told(group(group) + ";shape " + shape + ";size " + size + " " + size, allWeights(group[1], 9));
                    int free = x.count(8) - x.count(7) + 1;
                    is(power(group[1], free) * power(9, size * size), x::sum);
                    is(3, () -> board(x, allWeights(group[1], 0)));
                    is(0, x::sum);
                    is(4, () -> board(x, allWeights(group[1], 1)));
                    is(power(group[1], free), x::sum);
                }
            }
        }
    }

    private static void oneSquare() {
        about("TURNS on a tree of LINES from (0, 0) are REST, all others any");
        for (int[] group : GROUPS) {
            long all = 0;
            long closed = 0;
            String weights = allWeights(group[1], 1) + ";weight 1 7;weight 0 3";
            TurnBoard flat = told(group(group), weights);
            for (int a = 0; a < group[1]; a++) {
                all += flat.turn(a, 6);
                closed += (long) flat.turn(a, 6) * flat.turn(a, 4);
            }
            long flatSum = all;
            long closedSum = closed;
            is(flatSum, flat::sum);
            is(flatSum, flat::listed);
            TurnBoard tube = told(group(group) + ";shape 1", weights);
            is(group[1] * flatSum, tube::sum);
            is(group[1] * flatSum, tube::listed);
            TurnBoard one = told(group(group) + ";shape 2", weights);
            is(closedSum, one::sum);
            is(closedSum, one::listed);
        }
    }

    private static void sumOfFrames() {
        about("STATES are counted once for all that are but changes of FRAMES, CORNER (0, 0) left out");
        TurnBoard x = told("group 1 6;size 2 1;weight 0 2;weight 3 5");
        is(19 * 19, x::sum);
        is(19 * 19, x::listed);
        is(2, () -> board(x, "shape 1"));
        is(6 * 19 * 19, x::sum);
        is(6 * 19 * 19, x::listed);
        is(3, () -> board(x, "shape 2"));
        long sum = 0;
        int[] weights = {2, 1, 1, 5, 5, 5};
        for (int a = 0; a < 6; a++) {
            for (int b = 0; b < 6; b++) {
                for (int c = 0; c < 6; c++) {
                    for (int d = 0; d < 6; d++) {
                        int back = product(FLIPS, product(FLIPS, c, d), product(FLIPS, against(FLIPS, c), against(FLIPS, d)));
                        sum += product(FLIPS, a, b) == back ? weights[a] * weights[b] : 0;
                    }
                }
            }
        }
        long due = sum;
        is(due, x::sum);
        is(due, x::listed);
    }

    private static void listedLimit() {
        about("LISTED (SQUARES 4 at most). IllegalStateException: there are more than 4 SQUARES");
        for (int shape = 0; shape <= 2; shape++) {
            for (int wide = 1; wide <= 3; wide++) {
                for (int high = 1; high <= 3; high++) {
                    TurnBoard x = told("size " + wide + " " + high + ";shape " + shape + ";weight 0 2;weight 1 3;hole 0 0");
                    is(wide * high > 4 ? STATE : x.sum(), x::listed);
                }
            }
        }
        TurnBoard holes = told("size 3 2;hole 0 0;hole 1 0;hole 2 0;hole 0 1");
        is(STATE, holes::listed);
        is(64, holes::sum);
    }

    private static void listedIsSum() {
        about("LISTED: the same by listing");
        for (int[] group : GROUPS) {
            for (int shape = 0; shape <= 2; shape++) {
                for (int wide = 1; wide <= 3; wide++) {
                    int high = wide == 3 ? 1 : 2;
                    TurnBoard x = told(group(group) + ";size " + wide + " " + high + ";shape " + shape,
                            "weight 0 3;weight 1 2;weight " + (group[1] - 1) + " 7");
                    is(x.sum(), x::listed);
                    is(3, () -> board(x, "hole 0 " + (high - 1)));
                    is(x.sum(), x::listed);
                }
            }
        }
        TurnBoard dearest = told("group 2 8;size 2 2;shape 2;weight 0 9;weight 4 5");
        is(dearest.sum(), dearest::listed);
    }

    private static void linesDoNotMatter() {
        about("sums over all STATES do not change with the state, and do not change it");
        TurnBoard x = told("group 1 6;size 2 2;shape 2;weight 0 2;weight 3 5;hole 1 1");
        long sum = x.sum();
        long turned = x.states(2);
        x.set(0, 0, false, 3);
        x.set(1, 1, true, 2);
        x.frame(1, 0, 4);
        x.undo();
        String before = look(x);
        is(sum, x::sum);
        is(sum, x::listed);
        is(turned, () -> x.states(2));
        is(18, () -> x.rests(false));
        is(8, () -> x.rests(true));
        is(2 * 2 + 2 + 3 * 25, () -> x.body(2, 0, 0));
        is(before, () -> look(x));
        is(true, x::redo);
    }

    /** What a sum, a table or a list of an earlier BOARD left must not be seen in the next. */
    private static void leftovers() {
        about("the same sums, whatever BOARD was ahead");
        String[] sizes = {"2 2", "1 1", "2 1", "1 2", "3 1", "1 3", "2 2", "1 1"};
        for (int[] group : GROUPS) {
            for (int shape = 0; shape <= 2; shape++) {
                TurnBoard x = told("group 1 8;size 2 2;shape 2;weight 0 9;weight 4 8");
                is(x.sum(), x::listed);
                is(2, () -> board(x, group(group)));
                for (String size : sizes) {
                    String text = "size " + size + ";shape " + shape + ";weight 1 3;hole 0 0";
                    TurnBoard y = told(group(group) + ";" + text);
                    board(x, text);
                    is(y.listed(), x::listed);
                    is(y.sum(), x::sum);
                    is(y.states(1), () -> x.states(1));
                    is(y.rests(true), () -> x.rests(true));
                    is(y.body(2, 1, 1), () -> x.body(2, 1, 1));
                    is(y.worth(), x::worth);
                }
                is(2 + sizes.length, () -> x.count(0));
            }
        }
        for (int[] group : GROUPS) {
            TurnBoard x = told("group 2 8;weight 0 5;weight 4 3", group(group));
            TurnBoard y = told(group(group));
            is(look(y).substring(1), () -> look(x).substring(1));
            for (int t = 0; t < group[1]; t++) {
                for (int what = 0; what <= 6; what++) {
                    int turn = t;
                    int asked = what;
                    is(y.turn(t, what), () -> x.turn(turn, asked));
                }
            }
        }
    }

    private static void states() {
        about("BY TURNED: how many of them have just K SQUARES TURNED (WEIGHTS not looked at)");
        TurnBoard flat = told("group 1 6;size 2 2;weight 0 0;weight 3 9");
        long[] due = {1, 20, 150, 500, 625};
        for (int i = 0; i < 5; i++) {
            int k = i;
            is(due[k], () -> flat.states(k));
        }
        TurnBoard tube = told("group 1 6;size 2 2;shape 1");
        for (int i = 0; i < 5; i++) {
            int k = i;
            is(6 * due[k], () -> tube.states(k));
        }
        TurnBoard closed = told("group 0 3;size 2 2;shape 2;weight 1 0");
        long[] dueClosed = {9, 0, 9 * 6 * 2, 9 * 4 * 2, 9 * 6};
        for (int i = 0; i < 5; i++) {
            int k = i;
            is(dueClosed[k], () -> closed.states(k));
        }
        TurnBoard four = told("group 2 8;shape 2");
        is(40, () -> four.states(0));
        is(24, () -> four.states(1));
    }

    private static void statesOfHoles() {
        about("SQUARES TURNED: no HOLES, but what is ROUND them is any");
        TurnBoard flat = told("group 0 3;size 2 1;hole 0 0");
        is(3, () -> flat.states(0));
        is(6, () -> flat.states(1));
        is(0, () -> flat.states(2));
        TurnBoard closed = told("group 0 3;size 2 1;shape 2;hole 0 0");
        is(9, () -> closed.states(0));
        is(18, () -> closed.states(1));
        is(0, () -> closed.states(2));
        TurnBoard all = told("group 1 8;shape 2;hole 0 0");
        is(64, () -> all.states(0));
        is(0, () -> all.states(1));
    }

    private static void statesAreAll() {
        about("BY TURNED, over all K: all STATES");
        for (int[] group : GROUPS) {
            for (int shape = 0; shape <= 2; shape++) {
                TurnBoard x = told(group(group) + ";size 3 3;shape " + shape + ";hole 1 2;hole 0 0");
                long all = 0;
                for (int k = 0; k <= 7; k++) {
                    all += x.states(k);
                }
                long together = all;
                is(x.sum(), () -> together);
                is(0, () -> x.states(8));
                is(0, () -> x.states(9));
            }
        }
    }

    private static void statesLimits() {
        about("0 for a K that cannot be");
        TurnBoard x = told("group 1 8;size 3 3");
        is(1, () -> x.states(0));
        is(power(7, 9), () -> x.states(9));
        is(9 * power(7, 8), () -> x.states(8));
        for (int k : new int[] {-1, 10, 11, 32, 64, Integer.MAX_VALUE, Integer.MIN_VALUE}) {
            is(0, () -> x.states(k));
        }
    }

    private static void restsOfShapes() {
        about("AT REST: how many; how many, if all that are but changes of FRAMES ((0, 0), too) count once");
        for (int[] group : GROUPS) {
            int order = group[1];
            int pairs = 0;
            int fixed = 0;
            for (int a = 0; a < order; a++) {
                for (int b = 0; b < order; b++) {
                    if (product(group, a, b) != product(group, b, a)) {
                        continue;
                    }
                    pairs++;
                    for (int c = 0; c < order; c++) {
                        boolean stays = product(group, a, c) == product(group, c, a) && product(group, b, c) == product(group, c, b);
                        fixed += stays ? 1 : 0;
                    }
                }
            }
            rests(group, 0, 1, 1);
            rests(group, 1, order, told(group(group)).count(3));
            rests(group, 2, pairs, fixed / order);
        }
    }

    private static void rests(int[] group, int shape, int all, int once) {
        for (int size = 1; size <= 3; size++) {
            TurnBoard x = told(group(group) + ";size " + size + " " + (4 - size) + ";shape " + shape);
            is(all, () -> x.rests(false));
            is(once, () -> x.rests(true));
        }
    }

    private static void restsHoles() {
        about("all SQUARES (HOLES, too) have REST round them; WEIGHTS are not looked at");
        for (int shape = 0; shape <= 2; shape++) {
            TurnBoard x = told("group 1 6;size 3 2;shape " + shape + ";weight 0 0;weight 1 4");
            int all = x.rests(false);
            int once = x.rests(true);
            is(2, () -> board(x, "hole 0 0;hole 1 1;hole 2 1;hole 1 0;hole 0 1;hole 2 0"));
            x.set(1, 1, false, 4);
            is(all, () -> x.rests(false));
            is(once, () -> x.rests(true));
        }
    }

    private static void bodyLimits() {
        about("squares (0 to 6), HANDLES (0 to 2) and CROSSES (0 to 2). IllegalArgumentException: a number is none");
        TurnBoard x = told("group 1 6;weight 0 2");
        int[] far = {-1, 7, Integer.MAX_VALUE, Integer.MIN_VALUE};
        for (int none : far) {
            is(ARGUMENT, () -> x.body(none, 0, 0));
            is(ARGUMENT, () -> x.body(0, none, 0));
            is(ARGUMENT, () -> x.body(0, 0, none));
            is(ARGUMENT, () -> x.body(none, none, none));
        }
        is(ARGUMENT, () -> x.body(6, 3, 2));
        is(ARGUMENT, () -> x.body(6, 2, 3));
        for (int squares = 0; squares <= 6; squares++) {
            for (int handles = 0; handles <= 2; handles++) {
                for (int crosses = 0; crosses <= 2; crosses++) {
                    int f = squares;
                    int h = handles;
                    int c = crosses;
                    is(true, () -> x.body(f, h, c) > 0);
                }
            }
        }
        TurnBoard most = told("group 3 8;weight 0 9;weight 1 9;weight 2 9;weight 3 9", "weight 4 9;weight 5 9;weight 6 9;weight 7 9");
        is(power(72, 6) / 8 * power(64, 2) * power(8, 2), () -> most.body(6, 2, 2));
        TurnBoard round = told("group 0 7", allWeights(7, 9));
        is(power(63, 6) / 7 * power(49, 2) * power(7, 2), () -> round.body(6, 2, 2));
    }

    private static void bodyOfNothing() {
        about("CLOSED BODY without squares, HANDLES, CROSSES, or with one of them");
        for (int[] group : GROUPS) {
            TurnBoard x = told(group(group) + ";weight 0 4;weight 1 3");
            is(1, () -> x.body(0, 0, 0));
            is(4, () -> x.body(1, 0, 0));
            is(x.count(12), () -> x.body(0, 1, 0));
            is(x.turn(0, 5), () -> x.body(0, 0, 1));
            is(2, () -> board(x, "weight 0 0"));
            is(1, () -> x.body(0, 0, 0));
            is(0, () -> x.body(1, 0, 0));
            is(x.count(12), () -> x.body(0, 1, 0));
        }
        about("CLOSED BODY looks at WEIGHTS, not at HOLES, size and SHAPE");
        is(5, () -> told("size 2 2;shape 2;weight 0 5;hole 0 0").body(1, 0, 0));
    }

    private static void bodyByListing() {
        about("by which all COMMUTATORS, all C by C and all the squares, one by another, are REST");
        for (int[] group : GROUPS) {
            TurnBoard x = told(group(group) + ";weight 0 4;weight 1 3");
            int order = group[1];
            long[] sums = new long[5];
            for (int a = 0; a < order; a++) {
                for (int b = 0; b < order; b++) {
                    int commutator = product(group, product(group, a, b), product(group, against(group, a), against(group, b)));
                    int squares = product(group, product(group, a, a), product(group, b, b));
                    sums[0] += product(group, a, b) == 0 ? x.turn(a, 6) * x.turn(b, 6) : 0;
                    sums[1] += squares == 0 ? 1 : 0;
                    sums[2] += x.turn(against(group, commutator), 6);
                    sums[3] += x.turn(against(group, squares), 6);
                    for (int c = 0; c < order; c++) {
                        sums[4] += product(group, commutator, product(group, c, c)) == 0 ? 1 : 0;
                    }
                }
            }
            is(sums[0], () -> x.body(2, 0, 0));
            is(sums[1], () -> x.body(0, 0, 2));
            is(sums[2], () -> x.body(1, 1, 0));
            is(sums[3], () -> x.body(1, 0, 2));
            is(sums[4], () -> x.body(0, 1, 1));
        }
    }

    private static void dualLimits() {
        about("IndexOutOfBoundsException: no such TURN. IllegalStateException: not KIND 3");
        for (int[] group : GROUPS) {
            TurnBoard x = told(group(group));
            int order = group[1];
            boolean halves = group[0] == 3;
            is(halves ? order : STATE, () -> x.dual(0));
            is(halves ? 0 : STATE, () -> x.dual(order - 1));
            is(INDEX, () -> x.dual(order));
            is(INDEX, () -> x.dual(-1));
        }
    }

    private static void duals() {
        about("each with less, if it has an odd number of bits in common with T");
        TurnBoard two = told("group 3 2;weight 0 3;weight 1 9");
        is(12, () -> two.dual(0));
        is(-6, () -> two.dual(1));
        int[] weights = {9, 0, 2, 3, 5, 8, 1, 7};
        TurnBoard x = told("group 3 8;weight 0 9;weight 1 0;weight 2 2;weight 3 3;weight 4 5;weight 5 8;weight 6 1;weight 7 7");
        int[] odd = {0b00000000, 0b10101010, 0b11001100, 0b01100110, 0b11110000, 0b01011010, 0b00111100, 0b10010110};
        for (int i = 0; i < 8; i++) {
            int t = i;
            int dual = 0;
            for (int u = 0; u < 8; u++) {
                dual += (odd[t] >> u & 1) == 1 ? -weights[u] : weights[u];
            }
            int due = dual;
            is(due, () -> x.dual(t));
        }
        is(2, () -> board(x, "hole 0 0;size 2 2;hole 0 0"));
        is(35, () -> x.dual(0));
    }

    private static void dualSum() {
        about("ORDER times the sum, over T, of DUALS of T for all SQUARES, multiplied (of a HOLE: ORDER by T 0, else 0)");
        TurnBoard one = told("group 3 2;shape 2;weight 0 3;weight 1 9");
        is(2 * (12 - 6), one::dualSum);
        is(2, () -> board(one, "size 2 1"));
        is(2 * (144 + 36), one::dualSum);
        is(3, () -> board(one, "size 3 1"));
        is(2 * (1728 - 216), one::dualSum);
        is(4, () -> board(one, "hole 1 0"));
        is(2 * 12 * 2 * 12, one::dualSum);
        is(5, () -> board(one, "hole 0 0;hole 2 0"));
        is(2 * 2 * 2 * 2, one::dualSum);
        TurnBoard most = told("group 3 8;size 3 3;shape 2", allWeights(8, 9));
        is(8 * power(72, 9), most::dualSum);
        for (int order = 2; order <= 8; order *= 2) {
            for (int size = 1; size <= 3; size++) {
                TurnBoard x = told("group 3 " + order + ";size " + size + " 3;shape 2;weight 0 5;weight 1 7;hole 0 2");
                is(x.sum(), x::dualSum);
                board(x, "weight " + (order - 1) + " 0;size 3 " + size);
                is(x.sum(), x::dualSum);
            }
        }
    }

    private static void dualSumLimits() {
        about("IllegalStateException: not KIND 3, or not closed");
        for (int[] group : GROUPS) {
            for (int shape = 0; shape <= 2; shape++) {
                TurnBoard x = told(group(group) + ";shape " + shape);
                boolean there = group[0] == 3 && shape == 2;
                is(there ? group[1] * group[1] : STATE, x::dualSum);
            }
        }
    }

    private static void drawLimits() {
        about("A DRAW by a SEED (flat; some WEIGHT is above 0). IllegalStateException: not flat, or no WEIGHT is above 0");
        for (int shape = 1; shape <= 2; shape++) {
            TurnBoard x = told("size 2 2;shape " + shape + ";east 0 0 1");
            String before = look(x);
            is(STATE, () -> x.draw(0));
            is(before, () -> look(x));
        }
        TurnBoard none = told("group 1 6;size 2 1;weight 0 0;weight 1 0;weight 3 0;hole 0 0;east 0 0 4");
        none.set(1, 1, false, 2);
        none.undo();
        String before = look(none);
        is(STATE, () -> none.draw(1));
        is(before, () -> look(none));
        is(true, none::redo);
        is(2, () -> board(none, "weight 5 1"));
        is(1, () -> none.draw(1));
        is(2, () -> none.turn(none.round(1, 0), 1));
        for (int t = 0; t < 6; t++) {
            TurnBoard some = told("group 0 6", allWeights(6, 0), "weight " + t + " 9");
            int turn = t;
            is(9, () -> some.draw(-5));
            is(turn, () -> some.round(0, 0));
        }
    }

    private static int drawn(int bits, int[] weights) {
        int sum = 0;
        for (int weight : weights) {
            sum += weight;
        }
        int left = bits % sum;
        int below = 0;
        for (int t = 0; t < weights.length; t++) {
            below += weights[t];
            if (left < below) {
                return t;
            }
        }
        return -1;
    }

    private static void drawSeeds() {
        about("SEED is 1103515245 times SEED and 12345, as an int that goes round; bits 16 to 30");
        int[] seeds = {0, 1, -1, 2, 12345, -12345, Integer.MAX_VALUE, Integer.MIN_VALUE, 0x7fff0000, 0x55555555, 99, 1 << 16};
        int[] weights = {2, 0, 7, 1, 0, 9, 3, 0};
        for (int seed : seeds) {
            TurnBoard x = told("group 0 8;size 3 3", "weight 0 2;weight 1 0;weight 2 7;weight 4 0;weight 5 9;weight 6 3;weight 7 0");
            long worth = x.draw(seed);
            long due = 1;
            int next = seed;
            for (int i = 0; i < 9; i++) {
                next = (int) (1103515245L * next + 12345L);
                int turn = drawn((int) ((next & 0x7fff0000L) / 65536), weights);
                int column = i % 3;
                int row = i / 3;
                due *= weights[turn];
                is(turn, () -> x.round(column, row));
            }
            long together = due;
            is(together, () -> worth);
            is(together, x::worth);
        }
    }

    private static void drawHoles() {
        about("modulo the sum of WEIGHTS of all TURNS (of a HOLE: ORDER)");
        int[] weights = {5, 2, 2, 0, 0, 0};
        int[] ones = {1, 1, 1, 1, 1, 1};
        for (int seed = -3; seed <= 3; seed++) {
            TurnBoard x = told("group 1 6;size 3 2;weight 0 5;weight 1 2;weight 3 0;hole 0 0;hole 2 0;hole 1 1");
            int next = seed;
            long due = 1;
            int first = seed;
            is(true, () -> x.draw(first) == x.worth());
            for (int i = 0; i < 6; i++) {
                next = 1103515245 * next + 12345;
                boolean hole = i == 0 || i == 2 || i == 4;
                int turn = drawn(next >>> 16 & 0x7fff, hole ? ones : weights);
                due *= hole ? 1 : weights[turn];
                int column = i % 3;
                int row = i / 3;
                is(turn, () -> x.round(column, row));
            }
            long worth = due;
            is(worth, x::worth);
        }
    }

    private static void drawLines() {
        about("all LINES east of Y 0 are REST, all north of X 0, and north of (X and 1, Y) is REST, too");
        TurnBoard x = told("group 2 8;size 3 3;east 0 0 3;east 2 0 5;north 0 2 7;north 3 0 1;north 1 1 2;east 1 3 6");
        x.draw(2026);
        for (int i = 0; i <= 3; i++) {
            for (int j = 0; j < 3; j++) {
                int column = i;
                int row = j;
                is(0, () -> x.line(column, row, true));
                is(0, () -> x.line(row, 0, false));
            }
        }
        for (int i = 0; i < 3; i++) {
            for (int j = 0; j < 3; j++) {
                int column = i;
                int row = j;
                int[] group = {2, 8};
                is(product(group, x.line(i, j, false), against(group, x.line(i, j + 1, false))), () -> x.round(column, row));
            }
        }
        TurnBoard y = told("group 2 8;size 3 3");
        y.draw(2026);
        is(turns(y), () -> turns(x));
    }

    private static void drawNone() {
        about("a DRAW of a HOLE alone, where some WEIGHT is above 0");
        TurnBoard x = told("group 0 5;hole 0 0;weight 0 0;weight 1 0;weight 2 0;weight 3 0");
        is(1, () -> x.draw(7));
        int next = 1103515245 * 7 + 12345;
        is((next >>> 16 & 0x7fff) % 5, () -> x.round(0, 0));
        is(0, x::turned);
    }
}
