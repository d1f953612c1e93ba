import java.math.BigInteger;

/** The boundary cases of "What it is" and of the terms up to CHANCE: a test for each sentence. */
public final class ChainMovesBounds {
    private static final int BAD = -1, FULL = -3, LONG = -4, DEEP = -5;
    private static final int MIN = Integer.MIN_VALUE, MAX = Integer.MAX_VALUE;
    private static final int REDRAW = 0, STEP = 1, SWAP = 2, TOLD = 3, SLICE = 4, MIXED = 5, CYCLE = 6;

    public static void main(String[] args) {
        placesValuesStates();
        numbersOfStates();
        weights();
        linesOfPlaces();
        tenMoves();
        redrawOfNoWeight();
        redrawOfMostWeight();
        stepBehindTheLast();
        stepWhereBothAreTheSame();
        swapOfAsMany();
        toldChances();
        toldSums();
        toldAtMostOne();
        toldAlways();
        toldNever();
        toldOfNoChances();
        sliceNotBelowLevel();
        sliceOfNoWeight();
        acceptedAtMostOne();
        acceptedFromNoWeight();
        movesComeAhead();
        deep();
        lowestTerms();
        oneByOne();
        inTheirOrder();
        firstIsZero();
        longProduct();
        longProductWithOdds();
        longSum();
        longDifference();
        longInKeeps();
        longSumInKeeps();
        longProductsOfSums();
        longInGoesBack();
        Chain.end();
    }

    private static boolean isSize(int size) {
        return 2 <= size && size <= 6;
    }

    /** How many states these make, or BAD, by the words of promise 2 one after another. */
    private static int statesOf(int a, int b, int c, int d) {
        if (!isSize(a) || b != 0 && !isSize(b) || c != 0 && !isSize(c) || d != 0 && !isSize(d)) {
            return BAD;
        }
        if (b == 0 && (c != 0 || d != 0) || c == 0 && d != 0) {
            return BAD;
        }
        int states = a * (b == 0 ? 1 : b) * (c == 0 ? 1 : c) * (d == 0 ? 1 : d);
        return states > 16 ? BAD : states;
    }

    private static void placesValuesStates() {
        Chain.sentence("What it is: PLACES (1 to 4), each with 2 to 6 VALUES, STATES 16 at most");
        int[] sizes = {MIN, MIN + 2, -2, -1, 0, 1, 2, 3, 4, 5, 6, 7, 8, 16, 258, 65538, MAX};
        Chain c = new Chain();
        int places = 0;
        int states = 0;
        for (int i = 0; i < sizes.length * sizes.length * sizes.length * sizes.length; i++) {
            int[] a = {sizes[i / 4913], sizes[i / 289 % 17], sizes[i / 17 % 17], sizes[i % 17]};
            if (c.made() > Chain.MOST_CALLS - 3) {
                c = new Chain();
                places = 0;
                states = 0;
            }
            int want = statesOf(a[0], a[1], a[2], a[3]);
            c.due(want, "model", a[0], a[1], a[2], a[3]);
            if (want != BAD) {
                states = want;
                places = a[1] == 0 ? 1 : a[2] == 0 ? 2 : a[3] == 0 ? 3 : 4;
            }
            c.due(places, "count", 0).due(states, "count", 1);
        }
    }

    private static void numbersOfStates() {
        Chain.sentence("What it is: VALUES (from 0 on), STATES numbered by these, place 0 the slowest");
        for (int i = 0; i < 7 * 7 * 7 * 7; i++) {
            int[] a = {i / 343, i / 49 % 7, i / 7 % 7, i % 7};
            if (statesOf(a[0], a[1], a[2], a[3]) != BAD) {
                numbersOf(a);
            }
        }
    }

    private static void numbersOf(int[] size) {
        Chain c = new Chain();
        c.ask("model", size[0], size[1], size[2], size[3]);
        int s = 0;
        for (int v = 0; v < size[0]; v++) {
            for (int w = 0; w < Math.max(size[1], 1); w++) {
                for (int y = 0; y < Math.max(size[2], 1); y++) {
                    for (int z = 0; z < Math.max(size[3], 1); z++) {
                        c.due(s, "state", v, w, y, z).due(v, "value", s, 0);
                        c.due(size[1] == 0 ? BAD : w, "value", s, 1);
                        c.due(size[2] == 0 ? BAD : y, "value", s, 2);
                        c.due(size[3] == 0 ? BAD : z, "value", s, 3);
                        s++;
                    }
                }
            }
        }
        c.due(BAD, "value", s, 0);
    }

    private static void weights() {
        Chain.sentence("Terms: a WEIGHT w (0 to 1000; 1 at first)");
        for (int[] size : new int[][] {{2, 0, 2}, {6, 0, 6}, {3, 5, 15}, {4, 4, 16}}) {
            Chain c = new Chain().due(size[2], "model", size[0], size[1], 0, 0);
            for (int s = 0; s < size[2]; s++) {
                c.due(1, "weight", s, 0).due(0, "weight", s, 1000).due(1000, "weight", s, 999);
                c.due(BAD, "weight", s, -1).due(BAD, "weight", s, 1001).due(999, "weight", s, 2);
            }
            c.due(size[2], "model", size[0], size[1], 0, 0);
            for (int s = 0; s < size[2]; s++) {
                c.due(1, "weight", s, 1);
            }
        }
        Chain c = Chain.line(7, 3);
        c.refuseEach(BAD, 1, Chain.outside(0, 1000), "weight", 0, 5).due(7, "weight", 0, 7);
    }

    private static void linesOfPlaces() {
        Chain.sentence("Terms: a LINE: all STATES that are it but for that PLACE, by its VALUES");
        int[] stride = {6, 2, 1};
        int[] size = {2, 3, 2};
        for (int place = 0; place < 3; place++) {
            Chain c = new Chain().due(12, "model", 2, 3, 2, 0).due(0, "move", REDRAW, place, 0);
            for (int s = 0; s < 12; s++) {
                int first = s - s / stride[place] % size[place] * stride[place];
                for (int t = 0; t < 12; t++) {
                    int v = (t - first) / stride[place];
                    boolean inLine = t == first + v * stride[place] && 0 <= v && v < size[place];
                    c.due(inLine ? 1 : 0, "row", 0, s, t, 0).due(inLine ? size[place] : 1, "row", 0, s, t, 1);
                }
            }
        }
    }

    private static void tenMoves() {
        Chain.sentence("Terms: MOVES (10 at most, numbered from 0 on)");
        Chain c = new Chain().due(4, "model", 2, 2, 0, 0).due(0, "count", 2);
        c.refuse(BAD, "keeps", 0);
        for (int m = 0; m < 10; m++) {
            c.due(m, "move", m < 7 ? m : m - 7, 0, 1).due(m + 1, "count", 2);
            c.due(1, "keeps", m).due(BAD, "keeps", m + 1);
        }
        for (int kind = 0; kind < 7; kind++) {
            c.refuse(FULL, "move", kind, 0, 1);
        }
        c.due(10, "count", 2).due(4, "model", 2, 2, 0, 0).due(0, "count", 2).due(0, "move", TOLD, 0, 0);
    }

    private static void redrawOfNoWeight() {
        Chain.sentence("0 REDRAW: the sum of the LINE's WEIGHTS; is that 0, it stays");
        Chain c = new Chain().due(6, "model", 2, 3, 0, 0).due(0, "move", REDRAW, 1, 0);
        for (int s = 3; s < 6; s++) {
            c.due(1, "weight", s, 0);
        }
        for (int s = 3; s < 6; s++) {
            for (int t = 0; t < 6; t++) {
                c.dueRow(s == t ? 1 : 0, 1, 0, s, t);
            }
            c.due(1, "reach", 0, s).due(s, "run", 0, s, 9, 5);
        }
        c.due(0, "weight", 4, 1);
        for (int s = 3; s < 6; s++) {
            c.dueRow(1, 1, 0, s, 4).dueRow(0, 1, 0, s, 3).due(4, "run", 0, s, 1, 5);
        }
    }

    private static void redrawOfMostWeight() {
        Chain.sentence("0 REDRAW: w(t) / the sum of the LINE's WEIGHTS, at the most that these can be");
        Chain c = Chain.line(1000, 1000, 1000, 1000, 1000, 1000).due(0, "move", REDRAW, 0, 0);
        c.dueRow(1, 6, 0, 0, 5);
        c.due(1000, "weight", 2, 1).dueRow(1, 5001, 0, 5, 2).dueRow(1000, 5001, 0, 2, 5);
    }

    private static void stepBehindTheLast() {
        Chain.sentence("1 STEP: the next VALUE (behind the last the first), or the one before");
        for (int size = 3; size <= 6; size++) {
            Chain c = new Chain().due(size, "model", size, 0, 0, 0).due(0, "move", STEP, 0, 0);
            for (int s = 0; s < size; s++) {
                for (int t = 0; t < size; t++) {
                    boolean beside = t == (s + 1) % size || s == (t + 1) % size;
                    c.dueRow(beside ? 1 : 0, beside ? 2 : 1, 0, s, t);
                }
            }
        }
        Chain c = new Chain().due(15, "model", 3, 5, 0, 0).due(0, "move", STEP, 0, 0).due(1, "move", STEP, 1, 0);
        c.dueRow(1, 2, 0, 12, 2).dueRow(1, 2, 0, 2, 12).dueRow(1, 2, 0, 2, 7).dueRow(0, 1, 0, 12, 13);
        c.dueRow(1, 2, 1, 4, 0).dueRow(1, 2, 1, 5, 9).dueRow(0, 1, 1, 4, 5).dueRow(0, 1, 1, 14, 0);
    }

    private static void stepWhereBothAreTheSame() {
        Chain.sentence("1 STEP: 1 / 2 each (both may be the same)");
        Chain c = Chain.line(1, 1).due(0, "move", STEP, 0, 0);
        c.dueRow(1, 1, 0, 0, 1).dueRow(0, 1, 0, 0, 0).dueRow(1, 1, 0, 1, 0);
        c.due(1, "weight", 0, 3).dueRow(1, 3, 0, 0, 1).dueRow(2, 3, 0, 0, 0).dueRow(1, 1, 0, 1, 0);
    }

    private static void swapOfAsMany() {
        Chain.sentence("2 SWAP a b: the VALUES of both PLACES exchanged (both have as many)");
        Chain c = new Chain().due(12, "model", 2, 3, 2, 0);
        c.refuse(BAD, "move", SWAP, 0, 1).refuse(BAD, "move", SWAP, 1, 2).refuse(BAD, "move", SWAP, 2, 1);
        c.due(0, "move", SWAP, 0, 2).due(1, "move", SWAP, 2, 0);
        for (int m = 0; m < 2; m++) {
            for (int s = 0; s < 12; s++) {
                int t = s % 2 * 6 + s / 2 % 3 * 2 + s / 6;
                c.dueRow(1, 1, m, s, t);
            }
        }
        Chain square = new Chain().due(16, "model", 4, 4, 0, 0).due(0, "move", SWAP, 1, 0);
        square.dueRow(1, 1, 0, 3, 12).dueRow(1, 1, 0, 12, 3).dueRow(1, 1, 0, 15, 15).dueRow(1, 1, 0, 14, 11);
    }

    private static void toldChances() {
        Chain.sentence("3 TOLD: CHANCES c(s, t) are 0 to 100, 0 at first");
        Chain c = new Chain().due(16, "model", 2, 2, 2, 2).due(0, "move", TOLD, 0, 0);
        for (int s = 0; s < 16; s++) {
            for (int t = 0; t < 16; t++) {
                c.due(0, "chance", 0, s, t, (s + t) % 2 == 0 ? 100 : 1);
            }
        }
        Chain d = new Chain().due(3, "model", 3, 0, 0, 0).due(0, "move", TOLD, 0, 0);
        d.due(0, "chance", 0, 1, 2, 100).due(100, "chance", 0, 1, 2, 0).due(0, "chance", 0, 1, 2, 99);
        d.refuseEach(BAD, 3, Chain.outside(0, 100), "chance", 0, 1, 2, 5).due(99, "chance", 0, 1, 2, 4);
        d.due(1, "move", TOLD, 0, 0).due(0, "chance", 1, 1, 2, 3).due(4, "chance", 0, 1, 2, 4);
        d.due(3, "model", 3, 0, 0, 0).due(0, "move", TOLD, 0, 0).due(0, "chance", 0, 1, 2, 0);
    }

    private static void toldSums() {
        Chain.sentence("3 TOLD: C(s) their sum over all t, at the least and the most that it can be");
        Chain c = new Chain().due(16, "model", 4, 4, 0, 0).due(0, "move", TOLD, 0, 0);
        for (int t = 0; t < 16; t++) {
            c.due(0, "chance", 0, 3, t, 100);
            c.due(t == 3 ? 100 : 0, "chance", 0, t, 3, 100);
        }
        for (int t = 0; t < 16; t++) {
            c.dueRow(1, 16, 0, 3, t).dueRow(1, 16, 0, t == 3 ? 0 : t, 3);
        }
        c.due(100, "chance", 0, 3, 15, 0).dueRow(1, 15, 0, 3, 14).dueRow(0, 1, 0, 3, 15);
        Chain d = new Chain().due(16, "model", 4, 4, 0, 0).due(0, "move", TOLD, 0, 0);
        d.due(0, "chance", 0, 15, 0, 1).due(0, "chance", 0, 0, 15, 1);
        d.dueRow(1, 1, 0, 15, 0).dueRow(1, 1, 0, 0, 15).dueRow(0, 1, 0, 0, 0);
    }

    private static void toldAtMostOne() {
        Chain.sentence("3 TOLD: it is taken with the chance x / y, at most 1");
        // One way each: x is w(1), y is w(0).
        int[][] cases = {{1000, 999, 999, 1000}, {1000, 1000, 1, 1}, {999, 1000, 1, 1}, {1, 1000, 1, 1},
            {1000, 1, 1, 1000}, {2, 1, 1, 2}};
        for (int[] each : cases) {
            Chain c = Chain.line(each[0], each[1]).due(0, "move", TOLD, 0, 0);
            c.due(0, "chance", 0, 0, 1, 100).due(0, "chance", 0, 1, 0, 1);
            c.dueRow(each[2], each[3], 0, 0, 1);
            c.dueRow(each[3] - each[2], each[3] == each[2] ? 1 : each[3], 0, 0, 0);
        }
        // The least that it can be: w(1) c(1, 0) / w(0) C(1), with C(1) 1501.
        Chain c = new Chain().due(16, "model", 2, 2, 2, 2).due(0, "move", TOLD, 0, 0);
        c.due(1, "weight", 0, 1000).due(0, "chance", 0, 0, 1, 100).due(0, "chance", 0, 1, 0, 1);
        for (int t = 1; t < 16; t++) {
            c.due(0, "chance", 0, 1, t, 100);
        }
        c.dueRow(1, 1501000, 0, 0, 1).dueRow(1500999, 1501000, 0, 0, 0).dueRow(1, 1501, 0, 1, 0);
    }

    private static void toldAlways() {
        Chain.sentence("3 TOLD: (is w(s) 0: always)");
        Chain c = Chain.line(0, 0, 5).due(0, "move", TOLD, 0, 0);
        c.due(0, "chance", 0, 0, 1, 3).due(0, "chance", 0, 0, 2, 1);
        // Neither a way back, nor a weight there, nor a sum of chances there.
        c.dueRow(3, 4, 0, 0, 1).dueRow(1, 4, 0, 0, 2).dueRow(0, 1, 0, 0, 0).due(3, "reach", 0, 0);
        c.due(0, "chance", 0, 0, 0, 4).dueRow(1, 2, 0, 0, 0).dueRow(3, 8, 0, 0, 1);
        c.due(0, "weight", 0, 1).dueRow(0, 1, 0, 0, 1).dueRow(0, 1, 0, 0, 2).dueRow(1, 1, 0, 0, 0);
    }

    private static void toldNever() {
        Chain.sentence("3 TOLD: else, is x 0: never");
        Chain c = Chain.line(5, 0, 7, 2).due(0, "move", TOLD, 0, 0);
        c.due(0, "chance", 0, 0, 1, 3).due(0, "chance", 0, 1, 0, 3);
        c.due(0, "chance", 0, 0, 2, 1).due(0, "chance", 0, 2, 3, 1);
        c.due(0, "chance", 0, 0, 3, 1);
        // 1 has no weight, 2 no way back to 0, 3 no chances at all: x and y are both 0 there.
        c.dueRow(0, 1, 0, 0, 1).dueRow(0, 1, 0, 0, 2).dueRow(0, 1, 0, 0, 3).dueRow(1, 1, 0, 0, 0);
        c.due(1, "reach", 0, 0).due(0, "run", 0, 0, 200, 3).due(200, "refused");
        c.due(0, "weight", 1, 1).due(2, "reach", 0, 0).dueRow(1, 5, 0, 0, 1);
    }

    private static void toldOfNoChances() {
        Chain.sentence("3 TOLD: is C(s) 0, it stays");
        for (int weight : new int[] {0, 1, 1000}) {
            Chain c = Chain.line(weight, 3).due(0, "move", TOLD, 0, 0).due(0, "chance", 0, 1, 0, 1);
            c.dueRow(1, 1, 0, 0, 0).dueRow(0, 1, 0, 0, 1).due(1, "reach", 0, 0);
            c.due(0, "run", 0, 0, 50, 3).due(0, "refused").due(51, "visits", 0);
            c.due(0, "chance", 0, 0, 1, 1).due(2, "reach", 0, 0).due(1, "chance", 0, 0, 1, 0);
            c.dueRow(1, 1, 0, 0, 0).due(1, "reach", 0, 0);
        }
    }

    private static void sliceNotBelowLevel() {
        Chain.sentence("4 SLICE: a LEVEL of 1 to w(s); t of its LINE with w(t) not below LEVEL");
        Chain.line(1, 1).due(0, "move", SLICE, 0, 0).dueRow(1, 2, 0, 0, 1).dueRow(1, 2, 0, 0, 0);
        // From 0 level 1 has both, level 2 the first alone.
        Chain.line(2, 1).due(0, "move", SLICE, 0, 0).dueRow(1, 4, 0, 0, 1).dueRow(3, 4, 0, 0, 0).dueRow(1, 2, 0, 1, 0);
        Chain.line(2, 2).due(0, "move", SLICE, 0, 0).dueRow(1, 2, 0, 0, 1);
        Chain.line(2, 3).due(0, "move", SLICE, 0, 0).dueRow(1, 2, 0, 0, 1).dueRow(1, 3, 0, 1, 0).dueRow(2, 3, 0, 1, 1);
        Chain.line(2, 0).due(0, "move", SLICE, 0, 0).dueRow(0, 1, 0, 0, 1).dueRow(1, 1, 0, 0, 0);
        Chain.line(1000, 999).due(0, "move", SLICE, 0, 0).dueRow(999, 2000, 0, 0, 1).dueRow(1001, 2000, 0, 0, 0);
        Chain.line(1000, 1).due(0, "move", SLICE, 0, 0).dueRow(1, 2000, 0, 0, 1).dueRow(1999, 2000, 0, 0, 0);
        Chain.line(1000, 1000, 1000, 1000, 1000, 1000).due(0, "move", SLICE, 0, 0).dueRow(1, 6, 0, 0, 5);
        // From 5: one more level each drops one state more: 1/6 of (1/6 + 1/5 + 1/4 + 1/3 + 1/2 + 1).
        Chain c = Chain.line(1, 2, 3, 4, 5, 6).due(0, "move", SLICE, 0, 0);
        c.dueRow(49, 120, 0, 5, 5).dueRow(1, 36, 0, 5, 0).dueRow(11, 180, 0, 5, 1).dueRow(1, 6, 0, 0, 5);
        c.dueRow(29, 120, 0, 5, 4);
    }

    private static void sliceOfNoWeight() {
        Chain.sentence("4 SLICE: is w(s) 0, it stays");
        Chain c = Chain.line(0, 3, 0).due(0, "move", SLICE, 0, 0);
        c.dueRow(1, 1, 0, 0, 0).dueRow(0, 1, 0, 0, 1).dueRow(0, 1, 0, 0, 2).due(1, "reach", 0, 0);
        c.due(0, "run", 0, 0, 50, 3).due(51, "visits", 0).due(0, "refused");
        c.due(0, "weight", 0, 1).dueRow(1, 2, 0, 0, 1).due(2, "reach", 0, 0);
    }

    private static void acceptedAtMostOne() {
        Chain.sentence("ACCEPTED is t with the chance w(t) / w(s), at most 1");
        int[][] cases = {{1000, 999, 999, 1000}, {1000, 1000, 1, 1}, {999, 1000, 1, 1}, {1, 1000, 1, 1},
            {1000, 1, 1, 1000}, {1000, 0, 0, 1}, {1, 0, 0, 1}, {4, 2, 1, 2}};
        for (int[] each : cases) {
            int below = each[3] == each[2] ? 1 : each[3];
            Chain step = Chain.line(each[0], each[1]).due(0, "move", STEP, 0, 0);
            step.dueRow(each[2], each[3], 0, 0, 1).dueRow(each[3] - each[2], below, 0, 0, 0);
            Chain swap = new Chain().due(4, "model", 2, 2, 0, 0).due(0, "move", SWAP, 0, 1);
            swap.due(1, "weight", 1, each[0]).due(1, "weight", 2, each[1]);
            swap.dueRow(each[2], each[3], 0, 1, 2).dueRow(each[3] - each[2], below, 0, 1, 1);
        }
        // Of more values each way has its half.
        Chain c = Chain.line(1000, 999, 5, 1).due(0, "move", STEP, 0, 0);
        c.dueRow(999, 2000, 0, 0, 1).dueRow(1, 2000, 0, 0, 3).dueRow(1, 2, 0, 0, 0);
    }

    private static void acceptedFromNoWeight() {
        Chain.sentence("ACCEPTED (is w(s) 0: always)");
        Chain c = Chain.line(0, 0, 1000).due(0, "move", STEP, 0, 0);
        c.dueRow(1, 2, 0, 0, 1).dueRow(1, 2, 0, 0, 2).dueRow(0, 1, 0, 0, 0);
        c.dueRow(0, 1, 0, 2, 0).dueRow(1, 1, 0, 2, 2).due(3, "reach", 0, 0).due(1, "reach", 0, 2);
        Chain swap = new Chain().due(4, "model", 2, 2, 0, 0).due(0, "move", SWAP, 0, 1);
        swap.due(1, "weight", 1, 0).due(1, "weight", 2, 0).due(1, "weight", 3, 0);
        swap.dueRow(1, 1, 0, 1, 2).dueRow(0, 1, 0, 1, 1).dueRow(1, 1, 0, 3, 3);
    }

    private static void movesComeAhead() {
        Chain.sentence("MOVES that 5, 6 are of come ahead");
        for (int kind = MIXED; kind <= CYCLE; kind++) {
            Chain c = new Chain().due(2, "model", 2, 0, 0, 0).refuse(BAD, "move", kind, 0, 0);
            c.due(0, "move", TOLD, 0, 0).refuse(BAD, "move", kind, 0, 1).refuse(BAD, "move", kind, 1, 0);
            c.due(1, "move", kind, 0, 0).refuse(BAD, "move", kind, 1, 2).due(2, "move", kind, 1, 0);
        }
    }

    private static void deep() {
        Chain.sentence("at most two of 5, 6 lie in one another (DEEP)");
        for (int outer = MIXED; outer <= CYCLE; outer++) {
            for (int inner = MIXED; inner <= CYCLE; inner++) {
                Chain c = new Chain().due(4, "model", 2, 2, 0, 0);
                c.due(0, "move", STEP, 0, 0).due(1, "move", REDRAW, 1, 0);
                c.due(2, "move", inner, 0, 1).due(3, "move", outer, 2, 0).due(4, "move", outer, 1, 2);
                c.due(5, "move", outer, 2, 2).due(6, "move", inner, 1, 1);
                c.refuse(DEEP, "move", inner, 3, 0).refuse(DEEP, "move", inner, 0, 3);
                c.refuse(DEEP, "move", outer, 4, 4).refuse(DEEP, "move", outer, 2, 5);
                c.refuse(DEEP, "move", outer, 5, 6);
                c.due(7, "move", outer, 6, 2).due(8, "move", TOLD, 3, 3).due(9, "move", outer, 8, 8);
            }
        }
    }

    private static void lowestTerms() {
        Chain.sentence("CHANCE(s, t): a fraction in lowest terms (0 / 1)");
        Chain c = Chain.line(600, 400, 0).due(0, "move", REDRAW, 0, 0).due(1, "move", MIXED, 0, 0);
        c.due(2, "move", CYCLE, 0, 0).due(1, "odds", 1, 100, 100);
        for (int m = 0; m < 3; m++) {
            c.dueRow(3, 5, m, 2, 0).dueRow(2, 5, m, 0, 1).dueRow(0, 1, m, 0, 2);
        }
        c.due(400, "weight", 1, 0);
        for (int m = 0; m < 3; m++) {
            c.dueRow(1, 1, m, 0, 0).dueRow(0, 1, m, 0, 1);
        }
    }

    /** A hub 0 with told ways out to 1, 2, .. and back. */
    private static Chain star(int... sums) {
        Chain c = new Chain().due(16, "model", 2, 2, 2, 2);
        tellStar(c, 0, 0, 1, sums);
        return c;
    }

    /** All weights being the same, the hub and each of the others have the chance 1 / its sum, both ways. */
    private static void tellStar(Chain c, int m, int hub, int first, int... sums) {
        tellWays(c, m, hub, first, evenWays(sums));
    }

    private static int[][] evenWays(int... sums) {
        int[][] ways = new int[sums.length][];
        for (int i = 0; i < sums.length; i++) {
            ways[i] = new int[] {100, 1, sums[i]};
        }
        return ways;
    }

    /**
     * Told ways between the hub and first, first + 1, .., eight at most: the hub's c, the c back, and the sum of
     * all from there. With the same weights the chance is the lesser of both shares, which is that of the way back.
     */
    private static void tellWays(Chain c, int m, int hub, int first, int[]... ways) {
        c.due(m, "move", TOLD, 0, 0);
        for (int i = 0; i < ways.length; i++) {
            c.due(0, "chance", m, hub, first + i, ways[i][0]).due(0, "chance", m, first + i, hub, ways[i][1]);
            tellRest(c, m, first + i, first + Math.max(ways.length, 7), ways[i][2] - ways[i][1]);
        }
    }

    /** Tells chances from t to states from first on, which never lead back, until they have that sum. */
    private static void tellRest(Chain c, int m, int t, int first, int sum) {
        for (int u = first, left = sum; left > 0; u++) {
            c.due(0, "chance", m, t, u, Math.min(left, 100));
            left -= Math.min(left, 100);
        }
    }

    /** All 16 states have that weight, and the hub, 0 or 15, has such ways. */
    private static Chain heavyStar(int weight, int hub, int[]... ways) {
        Chain c = new Chain().due(16, "model", 2, 2, 2, 2);
        for (int s = 0; s < 16; s++) {
            c.due(1, "weight", s, weight);
        }
        tellWays(c, 0, hub, hub == 0 ? 1 : 0, ways);
        return c;
    }

    // Coprime, each pair a little below 512 * 512: their product is a little below 2^63.
    private static final int[] JUST_FITS = {512, 511, 513, 509, 515, 503, 521};
    private static final int[] JUST_LONG = {512, 511, 513, 509, 515, 503, 523};

    private static void longDifference() {
        Chain.sentence("LONG, if one of these differences does not fit in a long");
        BigInteger below = BigInteger.ONE;
        for (int sum : JUST_FITS) {
            below = below.multiply(BigInteger.valueOf(sum));
        }
        BigInteger above = below;
        for (int sum : JUST_FITS) {
            above = above.subtract(below.divide(BigInteger.valueOf(sum)));
        }
        Chain c = star(JUST_FITS);
        c.dueRow(above.longValueExact(), below.longValueExact(), 0, 0, 0).due(1, "goesBack", 0);
        Chain d = star(JUST_LONG).dueRow(1, 523, 0, 0, 7).dueRow(522, 523, 0, 7, 7);
        d.refuse(LONG, "row", 0, 0, 0, 0).refuse(LONG, "row", 0, 0, 0, 1).due(1, "goesBack", 0);
        longDifferenceByItsProducts();
        // One way less, and it fits.
        d.due(100, "chance", 0, 0, 7, 0);
        long sixth = below.divide(BigInteger.valueOf(521)).longValueExact();
        d.due(sixth, "row", 0, 0, 0, 1);
    }

    private static void longDifferenceByItsProducts() {
        Chain.sentence("LONG, if b (d / g) of a difference does not fit, though a (d / g) and c (b / g) do");
        // b (d / g) is a little above 2^64: what is left of it in a long is 16892838989370746.
        Chain c = heavyStar(1, 0, new int[][] {{100, 100, 201}, {15, 45, 661}, {15, 45, 649}, {15, 45, 713},
            {15, 45, 694}, {15, 45, 673}, {15, 45, 643}});
        c.dueRow(45, 643, 0, 0, 7).refuse(LONG, "row", 0, 0, 0, 0).refuse(LONG, "row", 0, 0, 0, 1);
        Chain.sentence("A difference fits also where the sum of both would not");
        Chain d = heavyStar(1, 0, new int[][] {{15, 1, 599}, {15, 1, 557}, {15, 1, 619}, {15, 1, 593}, {15, 1, 601},
            {15, 1, 623}, {100, 100, 201}});
        d.dueRow(4538891013863269955L, 9216922505655685863L, 0, 0, 0);
    }

    private static void oneByOne() {
        Chain.sentence("3, from s to s: 1 less CHANCE(s, t) of all others t, one by one");
        // 1 less the two of 202 is 1 / 2: ahead of the others they leave room for these, behind them they don't fit.
        int[][] ways = {{100, 51, 202}, {100, 50, 202}, {15, 1, 623}, {15, 1, 621}, {15, 1, 619}, {15, 1, 629},
            {15, 1, 617}, {15, 1, 593}};
        heavyStar(1, 0, ways).dueRow(54041576153880577L, 110227712385617946L, 0, 0, 0);
        int[][] behind = {ways[2], ways[3], ways[4], ways[5], ways[6], ways[7], ways[0], ways[1]};
        heavyStar(1, 0, behind).refuse(LONG, "row", 0, 0, 0, 0).refuse(LONG, "row", 0, 0, 0, 1);
        heavyStar(1, 15, ways).due(110227712385617946L, "row", 0, 15, 15, 1);
        heavyStar(1, 15, behind).refuse(LONG, "row", 0, 15, 15, 1);
    }

    private static void inTheirOrder() {
        Chain.sentence("6: over all STATES r in their order, added up from 0 on");
        // By the two of 101 together it is 1 / 8.
        int[][] ways = {{51, 101}, {50, 101}, {1, 519}, {1, 485}, {1, 523}, {1, 529}, {1, 553}, {1, 509}};
        throughEight(ways).dueRow(19829087771206291L, 156819244767021480L, 2, 0, 15);
        int[][] behind = {ways[2], ways[3], ways[4], ways[5], ways[6], ways[7], ways[0], ways[1]};
        throughEight(behind).refuse(LONG, "row", 2, 0, 15, 0).refuse(LONG, "row", 2, 0, 15, 1);
    }

    /** No state has a weight: by move 0 from 0 to one of 1 .. 8, all alike, by move 1 from these to 15 as told. */
    private static Chain throughEight(int[]... ways) {
        Chain c = new Chain().due(16, "model", 2, 2, 2, 2).due(0, "move", TOLD, 0, 0).due(1, "move", TOLD, 0, 0);
        for (int s = 0; s < 16; s++) {
            c.due(1, "weight", s, 0);
        }
        for (int r = 1; r <= 8; r++) {
            c.due(0, "chance", 0, 0, r, 1).due(0, "chance", 1, r, 15, ways[r - 1][0]);
            tellRest(c, 1, r, 9, ways[r - 1][1] - ways[r - 1][0]);
        }
        return c.due(2, "move", CYCLE, 0, 1);
    }

    private static void firstIsZero() {
        Chain.sentence("6: CHANCE(s, r) by a times CHANCE(r, t) by b, added up, where the second is 0");
        // From 0 the redraw leads to 0 and 8 alone, but the chance from 0 to 0 is LONG.
        Chain zero = star(JUST_LONG).due(1, "move", REDRAW, 0, 0).due(2, "move", CYCLE, 0, 1);
        zero.dueRow(0, 1, 1, 0, 5).refuse(LONG, "row", 2, 0, 5, 0).refuse(LONG, "row", 2, 0, 5, 1);
        zero.dueRow(261, 523, 2, 7, 7);
        Chain.sentence("6: CHANCE(s, r) by a times CHANCE(r, t) by b, added up, also where the first is 0");
        Chain c = star(JUST_LONG).due(1, "move", REDRAW, 0, 0).due(2, "move", CYCLE, 1, 0);
        // A redraw of place 0 leads from 7 to 15 or stays: never to 0, whose own chance is LONG.
        c.dueRow(0, 1, 1, 7, 0).refuse(LONG, "row", 2, 7, 0, 0).refuse(LONG, "row", 2, 7, 0, 1);
        c.dueRow(1, 1046, 2, 8, 7).due(16, "reach", 2, 0);
        c.due(100, "chance", 0, 0, 7, 0).dueRow(0, 1, 2, 7, 0);
    }

    /** The two states 0 and 1 of a told move: 1 / below there from 0, 512 / below back from 1. */
    private static void twoStates(Chain c, int m, int below) {
        c.due(m, "move", TOLD, 0, 0).due(0, "chance", m, 0, 1, 100).due(0, "chance", m, 1, 0, 1);
        tellRest(c, m, 1, 2, below / 512 - 1);
    }

    /** Four such moves, in a cycle of two cycles, which is move 6. */
    private static Chain fourInCycle(int... below) {
        Chain c = new Chain().due(16, "model", 2, 2, 2, 2).due(1, "weight", 0, 512);
        for (int m = 0; m < 4; m++) {
            twoStates(c, m, below[m]);
        }
        return c.due(4, "move", CYCLE, 0, 1).due(5, "move", CYCLE, 2, 3).due(6, "move", CYCLE, 4, 5);
    }

    /** From 0 to 0 it is (512 + the product of all 1 - 513 / below) / 513: by the two states' own values. */
    private static BigInteger[] fourFromFirst(int... below) {
        BigInteger shrinks = BigInteger.ONE;
        BigInteger all = BigInteger.ONE;
        for (int each : below) {
            shrinks = shrinks.multiply(BigInteger.valueOf(each - 513));
            all = all.multiply(BigInteger.valueOf(each));
        }
        BigInteger above = all.multiply(BigInteger.valueOf(512)).add(shrinks);
        BigInteger under = all.multiply(BigInteger.valueOf(513));
        BigInteger g = above.gcd(under);
        return new BigInteger[] {above.divide(g), under.divide(g)};
    }

    private static void dueFour(Chain c, int m, int... below) {
        BigInteger[] want = fourFromFirst(below);
        c.dueRow(want[0].longValueExact(), want[1].longValueExact(), m, 0, 0);
    }

    private static void longProduct() {
        Chain.sentence("LONG, if one of these products does not fit in a long");
        int p15 = 1 << 15;
        int p16 = 1 << 16;
        Chain c = fourInCycle(p16, p16, p15, p15);
        dueFour(c, 6, p16, p16, p15, p15);
        c.due(1L << 62, "row", 6, 0, 0, 1).due(1L << 32, "row", 4, 0, 0, 1);
        // 7 * 2^60 fits, 2^63 is the first that does not.
        Chain d = fourInCycle(7 * p15, p15, p15, p15);
        dueFour(d, 6, 7 * p15, p15, p15, p15);
        d.due(7L << 60, "row", 6, 0, 0, 1);
        Chain e = fourInCycle(p16, p16, p16, p15);
        e.refuse(LONG, "row", 6, 0, 0, 0).refuse(LONG, "row", 6, 0, 0, 1).due(LONG, "keeps", 6);
        dueFour(e, 4, p16, p16);
        dueFour(e, 5, p16, p15);
        longProductBelowAlone();
    }

    private static void longProductBelowAlone() {
        Chain.sentence("LONG, if b d of a product does not fit, though a c does");
        Chain c = twoLegs(213, 149, 194, 176, 236, 179, 218, 231);
        c.dueRow(12051409, 2167256256L, 4, 0, 1).dueRow(19933063, 4254646704L, 5, 1, 2);
        c.dueRow(240221494835767L, 9220909686313780224L, 6, 0, 2);
        // b d is a little above 2^64: what is left of it in a long is 2668329100893440.
        Chain d = twoLegs(237, 221, 193, 216, 206, 197, 231, 169);
        d.dueRow(13505099, 2911323168L, 4, 0, 1).dueRow(31965517, 6337122792L, 5, 1, 2);
        d.refuse(LONG, "row", 6, 0, 2, 0).refuse(LONG, "row", 6, 0, 2, 1).due(5, "reach", 6, 0);
    }

    /** No state has a weight: from 0 through 3 .. 6 to 1, from there through 7 .. 10 to 2, each with 1 / its sum. */
    private static Chain twoLegs(int... sums) {
        Chain c = new Chain().due(16, "model", 2, 2, 2, 2);
        for (int s = 0; s < 16; s++) {
            c.due(1, "weight", s, 0);
        }
        for (int m = 0; m < 4; m++) {
            c.due(m, "move", TOLD, 0, 0);
        }
        for (int i = 0; i < 8; i++) {
            int leg = i / 4;
            c.due(0, "chance", 2 * leg, leg, 3 + i, 1).due(0, "chance", 2 * leg + 1, 3 + i, leg + 1, 1);
            tellRest(c, 2 * leg + 1, 3 + i, 11, sums[i] - 1);
        }
        return c.due(4, "move", CYCLE, 0, 1).due(5, "move", CYCLE, 2, 3).due(6, "move", CYCLE, 4, 5);
    }

    /** The hub's own chance has nearly 2^62 below: odds of 100 to 100 fit as 1 / 2, odds of 1 to 2 don't. */
    private static void longProductWithOdds() {
        Chain.sentence("5: p / (p + q), in lowest terms, times that by a");
        int[] sums = {256, 511, 513, 509, 515, 503, 521};
        Chain c = star(sums).due(1, "move", MIXED, 0, 0).due(1, "odds", 1, 100, 100);
        long below = c.ask("row", 0, 0, 0, 1);
        long above = c.ask("row", 0, 0, 0, 0);
        Chain.must(below > Long.MAX_VALUE / 3 && below <= Long.MAX_VALUE / 2, "the test's own numbers");
        c.dueRow(above, below, 1, 0, 0).due(1, "odds", 1, 1, 1).dueRow(above, below, 1, 0, 0);
        c.due(1, "odds", 1, 1, 2).refuse(LONG, "row", 1, 0, 0, 0).refuse(LONG, "row", 1, 0, 0, 1);
        c.due(1, "odds", 1, 50, 50).dueRow(above, below, 1, 0, 0);
    }

    private static void longSum() {
        Chain.sentence("LONG, if one of these sums does not fit in a long");
        int[] one = {509, 256, 511};
        Chain c = mixedStars(one, 513, 515, 503, 521);
        BigInteger all = BigInteger.TWO;
        for (int each : new int[] {509, 256, 511, 513, 515, 503, 521}) {
            all = all.multiply(BigInteger.valueOf(each));
        }
        BigInteger stays = all;
        for (int each : new int[] {509, 256, 511, 513, 515, 503, 521}) {
            stays = stays.subtract(all.divide(BigInteger.valueOf(2L * each)));
        }
        BigInteger g = stays.gcd(all);
        c.dueRow(stays.divide(g).longValueExact(), all.divide(g).longValueExact(), 2, 0, 0);
        Chain d = mixedStars(one, 513, 515, 503, 523).dueRow(1, 1046, 2, 0, 4);
        d.refuse(LONG, "row", 2, 0, 0, 0).refuse(LONG, "row", 2, 0, 0, 1);
        // Each of the two fits: it is their sum that does not.
        d.due(509L * 256 * 511, "row", 0, 0, 0, 1).due(513L * 515 * 503 * 523, "row", 1, 0, 0, 1);
    }

    /** Two stars with the same hub, mixed by halves: their own chances have the product of all below. */
    private static Chain mixedStars(int[] one, int... other) {
        Chain c = new Chain().due(16, "model", 2, 2, 2, 2);
        tellStar(c, 0, 0, 1, one);
        tellStar(c, 1, 0, 1, other);
        return c.due(2, "move", MIXED, 0, 1);
    }

    private static void longInKeeps() {
        Chain.sentence("keeps: LONG (at the first that comes to it), by CHANCE(s, t) times w(s)");
        Chain c = star(JUST_FITS).due(1, "keeps", 0);
        for (int s = 0; s < 16; s++) {
            c.due(1, "weight", s, 2);
        }
        // The chances are the same, but above times 2 does not fit.
        c.refuse(LONG, "keeps", 0);
        for (int s = 0; s < 16; s++) {
            c.due(2, "weight", s, 1);
        }
        c.due(1, "keeps", 0).due(1, "goesBack", 0);
    }

    private static void longSumInKeeps() {
        Chain.sentence("keeps: LONG, if a sum of what is above does not fit, though both that are added do");
        // The last to be added for the hub is its own: 1000 L / L comes of it, L being the product of all sums.
        heavyStar(1000, 15, evenWays(453, 451, 443, 463, 469, 467)).due(1, "keeps", 0);
        Chain c = heavyStar(1000, 15, evenWays(449, 443, 471, 461, 469, 457));
        c.refuse(LONG, "keeps", 0).due(1, "goesBack", 0);
        // With these the hub's own and that of 1 come to 511 * 127 * 142123242012031, which is 2^63 - 1.
        int[][] toTheBound = {{100, 1, 127}, {100, 23, 709}, {100, 65, 729}, {100, 15, 773}, {100, 70, 827},
            {100, 91, 673}};
        heavyStar(511, 0, toTheBound).due(1, "keeps", 0);
        heavyStar(512, 0, toTheBound).refuse(LONG, "keeps", 0).due(1, "goesBack", 0);
    }

    private static void longProductsOfSums() {
        Chain.sentence("keeps: LONG, if a (d / g) or c (b / g) of a sum does not fit, though b (d / g) does");
        Chain c = heavyStar(1000, 15, new int[][] {{70, 17, 113}, {71, 54, 349}, {96, 56, 277}, {83, 19, 112},
            {57, 94, 761}, {56, 59, 487}, {25, 46, 846}});
        c.refuse(LONG, "keeps", 0).due(1, "goesBack", 0);
        Chain d = heavyStar(1000, 15, new int[][] {{1, 4, 433}, {1, 5, 534}, {1, 4, 428}, {1, 6, 641},
            {1, 7, 751}, {1, 6, 644}, {100, 91, 97}});
        d.refuse(LONG, "keeps", 0).due(1, "goesBack", 0);
    }

    private static void longInGoesBack() {
        Chain.sentence("goesBack: LONG (likewise), by CHANCE(s, t) times w(s)");
        Chain c = new Chain().due(16, "model", 2, 2, 2, 2);
        tellStar(c, 0, 0, 1, 8, 511, 513, 509, 515, 503, 521);
        c.due(1, "move", REDRAW, 3, 0).due(2, "move", CYCLE, 0, 1);
        // All weights being the same, the chances stay what they are: the weight alone comes to the bound.
        long above = c.ask("row", 2, 0, 1, 0);
        int most = (int) (Long.MAX_VALUE / above);
        Chain.must(most > 1 && most < 1000, "the test's own numbers");
        for (int s = 0; s < 16; s++) {
            c.due(1, "weight", s, most);
        }
        c.due(above, "row", 2, 0, 1, 0).due(0, "goesBack", 2);
        for (int s = 0; s < 16; s++) {
            c.due(most, "weight", s, most + 1);
        }
        c.due(above, "row", 2, 0, 1, 0).refuse(LONG, "goesBack", 2);
        longBehindZero();
    }

    private static void longBehindZero() {
        Chain.sentence("goesBack: for all s below t, s in their order, t for each: what comes first is answered");
        Chain c = new Chain().due(16, "model", 2, 2, 2, 2);
        tellStar(c, 0, 0, 1, JUST_LONG);
        c.due(1, "move", REDRAW, 3, 0).due(2, "move", CYCLE, 0, 1);
        // Both 0 and 1 are told of first; 2 and 3 do not go back as they came either.
        c.due(LONG, "row", 2, 0, 1, 0).refuse(LONG, "goesBack", 2);
        Chain d = new Chain().due(16, "model", 2, 2, 2, 2);
        tellStar(d, 0, 15, 0, JUST_LONG);
        d.due(1, "move", REDRAW, 3, 0).due(2, "move", CYCLE, 0, 1);
        d.due(LONG, "row", 2, 15, 14, 0).due(0, "goesBack", 2).refuse(LONG, "keeps", 2);
    }
}
