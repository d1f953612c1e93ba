/** Answers worked out by hand from the document, promise by promise: ordinary, edges, wrong inputs. */
public final class ChainMovesPromises {
    private static final int BAD = -1, STATE = -2, FULL = -3, LONG = -4, DEEP = -5;
    private static final int MIN = Integer.MIN_VALUE, MAX = Integer.MAX_VALUE;

    private static int wrong = 0;

    private static void due(String call, long got, long want) {
        if (got != want) {
            wrong++;
            System.out.println(call + " answered " + got + ", due is " + want);
        }
    }

    private static void dueRow(String what, ChainMoves x, int m, int s, int t, long above, long below) {
        due(what + " row(" + m + ", " + s + ", " + t + ", 0)", x.row(m, s, t, 0), above);
        due(what + " row(" + m + ", " + s + ", " + t + ", 1)", x.row(m, s, t, 1), below);
    }

    public static void main(String[] args) {
        newObject();
        model();
        modelForgets();
        weight();
        state();
        value();
        move();
        moveOrder();
        odds();
        chance();
        rowOfRedrawAndStep();
        rowOfSwap();
        rowOfTold();
        rowOfSlice();
        rowOfMixedAndCycle();
        rowWrong();
        rowLong();
        rowAfterChanges();
        keeps();
        goesBack();
        reach();
        reachWithoutFractions();
        runNumbers();
        runRedrawAndSlice();
        runToldAndMixed();
        runWithoutDraws();
        runWrong();
        traceAndVisits();
        refused();
        together();
        count();
        System.out.println(wrong == 0 ? "all answers are as due" : wrong + " answers are not as due");
        if (wrong != 0) {
            System.exit(1);
        }
    }

    /** A model of so many values at one place, with these weights. */
    private static ChainMoves line(int... weights) {
        ChainMoves x = new ChainMoves();
        due("model of a line", x.model(weights.length, 0, 0, 0), weights.length);
        for (int s = 0; s < weights.length; s++) {
            due("weight of a line", x.weight(s, weights[s]), 1);
        }
        return x;
    }

    private static void newObject() {
        ChainMoves x = new ChainMoves();
        due("1: weight", x.weight(0, 1), STATE);
        due("1: weight, wrong too", x.weight(-1, -1), STATE);
        due("1: state", x.state(0, 0, 0, 0), STATE);
        due("1: value", x.value(0, 0), STATE);
        due("1: move", x.move(3, 0, 0), STATE);
        due("1: move, wrong too", x.move(-1, 0, 0), STATE);
        due("1: odds", x.odds(0, 1, 1), STATE);
        due("1: chance", x.chance(0, 0, 0, 0), STATE);
        due("1: row", x.row(0, 0, 0, 0), STATE);
        due("1: keeps", x.keeps(0), STATE);
        due("1: goesBack", x.goesBack(0), STATE);
        due("1: reach", x.reach(0, 0), STATE);
        due("1: run", x.run(0, 0, 0, 0), STATE);
        due("1: trace", x.trace(0), STATE);
        due("1: visits", x.visits(0), STATE);
        due("1: refused", x.refused(), STATE);
        due("1: together", x.together(0, 0), STATE);
        due("1: count(0)", x.count(0), 0);
        due("1: count(1)", x.count(1), 0);
        due("1: count(2)", x.count(2), 0);
        due("1: count(3)", x.count(3), -1);
    }

    private static void model() {
        ChainMoves x = new ChainMoves();
        due("2: model(2, 0, 0, 0)", x.model(2, 0, 0, 0), 2);
        due("2: model(6, 0, 0, 0)", x.model(6, 0, 0, 0), 6);
        due("2: model(2, 2, 2, 2)", x.model(2, 2, 2, 2), 16);
        due("2: model(4, 4, 0, 0)", x.model(4, 4, 0, 0), 16);
        due("2: model(5, 3, 0, 0)", x.model(5, 3, 0, 0), 15);
        due("2: model(2, 3, 2, 0)", x.model(2, 3, 2, 0), 12);
        due("2: 0 ahead", x.model(0, 0, 0, 0), BAD);
        due("2: 0 ahead of others", x.model(0, 2, 0, 0), BAD);
        due("2: 1 value", x.model(1, 2, 0, 0), BAD);
        due("2: 7 values", x.model(7, 0, 0, 0), BAD);
        due("2: 1 behind", x.model(2, 1, 0, 0), BAD);
        due("2: 7 behind", x.model(2, 7, 0, 0), BAD);
        due("2: -1 third", x.model(2, 2, -1, 0), BAD);
        due("2: 1 last", x.model(2, 2, 2, 1), BAD);
        due("2: a gap", x.model(2, 0, 2, 0), BAD);
        due("2: a gap at the end", x.model(2, 0, 0, 2), BAD);
        due("2: a gap of one", x.model(2, 2, 0, 2), BAD);
        due("2: 17 states and more", x.model(6, 3, 0, 0), BAD);
        due("2: 24 states", x.model(2, 2, 2, 3), BAD);
        due("2: 20 states", x.model(4, 5, 0, 0), BAD);
        due("2: numbers whose product wraps", x.model(65536, 65536, 0, 0), BAD);
        due("2: least", x.model(MIN, MIN, MIN, MIN), BAD);
        due("2: most", x.model(MAX, MAX, MAX, MAX), BAD);
        due("2: states after BAD", x.count(1), 12);
    }

    private static void modelForgets() {
        ChainMoves x = line(7, 3, 5);
        x.move(3, 0, 0);
        x.chance(0, 0, 1, 9);
        x.run(0, 0, 5, 1);
        due("2: BAD model", x.model(9, 0, 0, 0), BAD);
        due("2: moves after BAD", x.count(2), 1);
        due("2: run after BAD", x.count(3), 5);
        due("2: weight after BAD", x.weight(0, 7), 7);
        due("2: new model", x.model(3, 0, 0, 0), 3);
        due("2: moves are gone", x.count(2), 0);
        due("2: run is gone", x.count(3), -1);
        due("2: trace is gone", x.trace(0), STATE);
        due("2: refused is gone", x.refused(), STATE);
        due("2: weight is 1", x.weight(0, 4), 1);
        due("2: row of a move that is gone", x.row(0, 0, 0, 0), BAD);
        due("2: first move again", x.move(3, 0, 0), 0);
        due("2: chances are 0", x.chance(0, 0, 1, 2), 0);
        dueRow("2: sum of chances anew", x, 0, 1, 1, 1, 1);
    }

    private static void weight() {
        ChainMoves x = new ChainMoves();
        x.model(2, 3, 0, 0);
        due("3: first", x.weight(5, 1000), 1);
        due("3: second", x.weight(5, 0), 1000);
        due("3: third", x.weight(5, 3), 0);
        due("3: above", x.weight(5, 1001), BAD);
        due("3: below", x.weight(5, -1), BAD);
        due("3: no state", x.weight(6, 1), BAD);
        due("3: no state below", x.weight(-1, 1), BAD);
        due("3: least", x.weight(MIN, MIN), BAD);
        due("3: after BAD", x.weight(5, 3), 3);
    }

    private static void state() {
        ChainMoves x = new ChainMoves();
        x.model(2, 3, 2, 0);
        due("4: 0 0 0", x.state(0, 0, 0, 0), 0);
        due("4: place 0 is the slowest", x.state(1, 0, 0, 0), 6);
        due("4: place 1", x.state(0, 1, 0, 0), 2);
        due("4: place 2 is the fastest", x.state(0, 0, 1, 0), 1);
        due("4: last", x.state(1, 2, 1, 0), 11);
        due("4: no such place: any value", x.state(1, 2, 1, 77), 11);
        due("4: no such place: any below", x.state(1, 2, 1, MIN), 11);
        due("4: value above", x.state(2, 0, 0, 0), BAD);
        due("4: value above at 1", x.state(0, 3, 0, 0), BAD);
        due("4: value below", x.state(0, -1, 0, 0), BAD);
        due("4: value above at 2", x.state(0, 0, 2, 0), BAD);
        due("4: most", x.state(MAX, MAX, MAX, MAX), BAD);
        x.model(2, 2, 2, 2);
        due("4: four places", x.state(1, 0, 1, 1), 11);
        due("4: value above at 3", x.state(0, 0, 0, 2), BAD);
        x.model(6, 0, 0, 0);
        due("4: one place", x.state(5, -3, 9, MAX), 5);
    }

    private static void value() {
        ChainMoves x = new ChainMoves();
        x.model(2, 3, 2, 0);
        due("5: place 0", x.value(9, 0), 1);
        due("5: place 1", x.value(9, 1), 1);
        due("5: place 2", x.value(9, 2), 1);
        due("5: place 1 of 4", x.value(4, 1), 2);
        due("5: no place", x.value(4, 3), BAD);
        due("5: no place below", x.value(4, -1), BAD);
        due("5: no state", x.value(12, 0), BAD);
        due("5: no state below", x.value(-1, 0), BAD);
        due("5: most", x.value(MAX, MAX), BAD);
    }

    private static void move() {
        ChainMoves x = new ChainMoves();
        x.model(2, 2, 3, 0);
        due("6: MIXED without moves", x.move(5, 0, 0), BAD);
        due("6: REDRAW, b is any", x.move(0, 2, MIN), 0);
        due("6: STEP", x.move(1, 0, 99), 1);
        due("6: SWAP", x.move(2, 0, 1), 2);
        due("6: TOLD, both are any", x.move(3, -5, 12), 3);
        due("6: SLICE", x.move(4, 1, -1), 4);
        due("6: MIXED of the same twice", x.move(5, 4, 4), 5);
        due("6: CYCLE", x.move(6, 0, 5), 6);
        due("6: kind below", x.move(-1, 0, 0), BAD);
        due("6: kind above", x.move(7, 0, 0), BAD);
        due("6: REDRAW of no place", x.move(0, 3, 0), BAD);
        due("6: STEP of no place", x.move(1, -1, 0), BAD);
        due("6: SLICE of no place", x.move(4, 3, 0), BAD);
        due("6: SWAP of no place", x.move(2, 0, 3), BAD);
        due("6: SWAP of no first place", x.move(2, -1, 1), BAD);
        due("6: SWAP of one", x.move(2, 1, 1), BAD);
        due("6: SWAP of other sizes", x.move(2, 1, 2), BAD);
        due("6: MIXED of no move", x.move(5, 7, 0), BAD);
        due("6: CYCLE of no move", x.move(6, 0, 7), BAD);
        due("6: CYCLE of no move below", x.move(6, -1, 0), BAD);
        due("6: so many moves", x.count(2), 7);
        due("6: still a second level", x.move(6, 6, 0), DEEP);
        due("6: a third level by b", x.move(5, 0, 6), DEEP);
        due("6: second level of two", x.move(5, 5, 5), 7);
        due("6: moves after DEEP", x.count(2), 8);
    }

    private static void moveOrder() {
        ChainMoves x = new ChainMoves();
        x.model(2, 2, 0, 0);
        x.move(0, 0, 0);
        x.move(5, 0, 0);
        x.move(6, 1, 1);
        for (int m = 3; m < 10; m++) {
            due("6: move " + m, x.move(3, 0, 0), m);
        }
        due("6: FULL", x.move(3, 0, 0), FULL);
        due("6: FULL, of moves", x.move(5, 1, 0), FULL);
        due("6: BAD ahead of FULL", x.move(0, 2, 0), BAD);
        due("6: BAD ahead of FULL, moves", x.move(6, 10, 0), BAD);
        due("6: DEEP ahead of FULL", x.move(6, 2, 0), DEEP);
        due("6: BAD ahead of DEEP", x.move(6, 2, 10), BAD);
        due("6: after FULL", x.count(2), 10);
    }

    private static void odds() {
        ChainMoves x = line(1, 3);
        x.move(0, 0, 0);
        x.move(3, 0, 0);
        x.move(5, 0, 1);
        x.move(6, 0, 1);
        dueRow("7: odds at first", x, 2, 0, 1, 3, 8);
        due("7: odds", x.odds(2, 1, 100), 1);
        dueRow("7: least and most", x, 2, 0, 1, 3, 404);
        due("7: p above", x.odds(2, 101, 1), BAD);
        due("7: p below", x.odds(2, 0, 1), BAD);
        due("7: q above", x.odds(2, 1, 101), BAD);
        due("7: q below", x.odds(2, 1, 0), BAD);
        due("7: of a CYCLE", x.odds(3, 1, 1), BAD);
        due("7: of a REDRAW", x.odds(0, 1, 1), BAD);
        due("7: of no move", x.odds(4, 1, 1), BAD);
        due("7: of no move below", x.odds(-1, 1, 1), BAD);
        dueRow("7: after BAD", x, 2, 0, 1, 3, 404);
    }

    private static void chance() {
        ChainMoves x = line(1, 1, 1);
        x.move(3, 0, 0);
        x.move(0, 0, 0);
        due("8: first", x.chance(0, 0, 1, 100), 0);
        due("8: second", x.chance(0, 0, 1, 0), 100);
        due("8: the other way", x.chance(0, 1, 0, 7), 0);
        due("8: to itself", x.chance(0, 2, 2, 5), 0);
        due("8: again", x.chance(0, 2, 2, 6), 5);
        due("8: above", x.chance(0, 0, 1, 101), BAD);
        due("8: below", x.chance(0, 0, 1, -1), BAD);
        due("8: no s", x.chance(0, 3, 1, 1), BAD);
        due("8: no t", x.chance(0, 1, 3, 1), BAD);
        due("8: no s below", x.chance(0, -1, 1, 1), BAD);
        due("8: no t below", x.chance(0, 1, -1, 1), BAD);
        due("8: not TOLD", x.chance(1, 0, 1, 1), BAD);
        due("8: no move", x.chance(2, 0, 1, 1), BAD);
        due("8: after BAD", x.chance(0, 1, 0, 7), 7);
    }

    private static void rowOfRedrawAndStep() {
        ChainMoves x = line(4, 2, 0, 6);
        x.move(0, 0, 0);
        x.move(1, 0, 0);
        dueRow("9: REDRAW", x, 0, 2, 0, 1, 3);
        dueRow("9: REDRAW to itself", x, 0, 3, 3, 1, 2);
        dueRow("9: REDRAW to 0", x, 0, 0, 2, 0, 1);
        dueRow("9: STEP to the next", x, 1, 0, 1, 1, 4);
        dueRow("9: STEP to the last", x, 1, 0, 3, 1, 2);
        dueRow("9: STEP stays", x, 1, 0, 0, 1, 4);
        dueRow("9: STEP behind the last", x, 1, 3, 0, 1, 3);
        dueRow("9: STEP to no weight", x, 1, 3, 2, 0, 1);
        dueRow("9: STEP too far", x, 1, 0, 2, 0, 1);
        dueRow("9: STEP from no weight", x, 1, 2, 1, 1, 2);
        dueRow("9: STEP from no weight never stays", x, 1, 2, 2, 0, 1);
        ChainMoves y = new ChainMoves();
        y.model(2, 3, 0, 0);
        y.move(0, 1, 0);
        y.move(1, 0, 0);
        y.weight(3, 0);
        y.weight(4, 0);
        y.weight(5, 0);
        y.weight(1, 4);
        dueRow("9: REDRAW of a line of 0 stays", y, 0, 4, 4, 1, 1);
        dueRow("9: REDRAW of a line of 0", y, 0, 4, 3, 0, 1);
        dueRow("9: REDRAW in its line", y, 0, 0, 1, 2, 3);
        dueRow("9: REDRAW out of its line", y, 0, 0, 4, 0, 1);
        y.weight(3, 3);
        y.weight(0, 4);
        dueRow("9: STEP of two values", y, 1, 0, 3, 3, 4);
        dueRow("9: STEP of two values stays", y, 1, 0, 0, 1, 4);
        dueRow("9: STEP of two values back", y, 1, 3, 0, 1, 1);
    }

    private static void rowOfSwap() {
        ChainMoves x = new ChainMoves();
        x.model(2, 3, 2, 0);
        x.move(2, 0, 2);
        int from = x.state(1, 2, 0, 0);
        int to = x.state(0, 2, 1, 0);
        x.weight(from, 10);
        x.weight(to, 4);
        dueRow("9: SWAP", x, 0, from, to, 2, 5);
        dueRow("9: SWAP stays", x, 0, from, from, 3, 5);
        dueRow("9: SWAP back", x, 0, to, from, 1, 1);
        dueRow("9: SWAP of the same values", x, 0, 7, 7, 1, 1);
        dueRow("9: SWAP elsewhere", x, 0, from, 0, 0, 1);
        x.weight(from, 0);
        x.weight(to, 0);
        dueRow("9: SWAP of no weights", x, 0, from, to, 1, 1);
    }

    private static void rowOfTold() {
        ChainMoves x = line(6, 4, 0);
        x.move(3, 0, 0);
        dueRow("9: TOLD of no chances stays", x, 0, 0, 0, 1, 1);
        dueRow("9: TOLD of no chances", x, 0, 0, 1, 0, 1);
        x.chance(0, 0, 1, 3);
        dueRow("9: TOLD without a way back", x, 0, 0, 1, 0, 1);
        dueRow("9: TOLD without a way back stays", x, 0, 0, 0, 1, 1);
        x.chance(0, 0, 0, 1);
        x.chance(0, 1, 0, 2);
        x.chance(0, 1, 2, 8);
        // From 0 to 1: 3 / 4 times x / y, x = 4 * 2 * 4, y = 6 * 3 * 10.
        dueRow("9: TOLD", x, 0, 0, 1, 2, 15);
        dueRow("9: TOLD stays", x, 0, 0, 0, 13, 15);
        dueRow("9: TOLD, x above y", x, 0, 1, 0, 1, 5);
        dueRow("9: TOLD to no weight", x, 0, 1, 2, 0, 1);
        dueRow("9: TOLD stays otherwise", x, 0, 1, 1, 4, 5);
        x.chance(0, 2, 0, 1);
        x.chance(0, 2, 1, 2);
        dueRow("9: TOLD from no weight, always", x, 0, 2, 0, 1, 3);
        dueRow("9: TOLD from no weight never stays", x, 0, 2, 2, 0, 1);
        x.chance(0, 2, 2, 3);
        dueRow("9: TOLD to itself", x, 0, 2, 2, 1, 2);
    }

    private static void rowOfSlice() {
        ChainMoves x = line(3, 1, 0, 5);
        x.move(4, 0, 0);
        // From 0: level 1 has three states, levels 2 and 3 have two.
        dueRow("9: SLICE", x, 0, 0, 1, 1, 9);
        dueRow("9: SLICE to more", x, 0, 0, 3, 4, 9);
        dueRow("9: SLICE to itself", x, 0, 0, 0, 4, 9);
        dueRow("9: SLICE to 0", x, 0, 0, 2, 0, 1);
        // From 3: levels 4 and 5 leave it alone.
        dueRow("9: SLICE to less", x, 0, 3, 0, 4, 15);
        dueRow("9: SLICE from most", x, 0, 3, 3, 2, 3);
        dueRow("9: SLICE from 0 stays", x, 0, 2, 2, 1, 1);
        dueRow("9: SLICE from 0", x, 0, 2, 0, 0, 1);
        ChainMoves y = new ChainMoves();
        y.model(2, 2, 0, 0);
        y.move(4, 1, 0);
        dueRow("9: SLICE in its line", y, 0, 2, 3, 1, 2);
        dueRow("9: SLICE out of its line", y, 0, 2, 0, 0, 1);
    }

    private static void rowOfMixedAndCycle() {
        ChainMoves x = new ChainMoves();
        x.model(2, 2, 0, 0);
        x.weight(3, 3);
        x.move(0, 0, 0);
        x.move(0, 1, 0);
        x.move(5, 0, 1);
        x.move(6, 0, 1);
        x.odds(2, 2, 4);
        dueRow("9: MIXED by a", x, 2, 0, 2, 1, 6);
        dueRow("9: MIXED by b", x, 2, 0, 1, 1, 3);
        dueRow("9: MIXED by both", x, 2, 3, 3, 3, 4);
        dueRow("9: CYCLE", x, 3, 0, 3, 3, 8);
        dueRow("9: CYCLE in its order", x, 3, 1, 3, 9, 16);
        dueRow("9: CYCLE, the other way", x, 3, 3, 1, 1, 8);
        x.move(6, 3, 2);
        x.move(5, 3, 2);
        // Over r: 1/4 * 0 + 1/4 * 1/4 + 1/8 * 1/2 + 3/8 * 3/4.
        dueRow("9: CYCLE of a CYCLE and a MIXED", x, 4, 0, 3, 13, 32);
        dueRow("9: MIXED of a CYCLE and a MIXED", x, 5, 3, 3, 21, 32);
    }

    private static void rowWrong() {
        ChainMoves x = line(1, 2);
        x.move(0, 0, 0);
        due("9: no move", x.row(1, 0, 0, 0), BAD);
        due("9: no move below", x.row(-1, 0, 0, 0), BAD);
        due("9: no s", x.row(0, 2, 0, 0), BAD);
        due("9: no s below", x.row(0, -1, 0, 0), BAD);
        due("9: no t", x.row(0, 0, 2, 0), BAD);
        due("9: no t below", x.row(0, 0, -1, 0), BAD);
        due("9: no part", x.row(0, 0, 0, 2), BAD);
        due("9: no part below", x.row(0, 0, 0, -1), BAD);
        due("9: least", x.row(MIN, MIN, MIN, MIN), BAD);
    }

    /** A told move whose fractions from 0 have primes below them: 1 less them all does not fit. */
    private static ChainMoves longOne() {
        ChainMoves x = new ChainMoves();
        x.model(2, 2, 2, 2);
        x.move(3, 0, 0);
        x.weight(0, 1000);
        int[] sums = {0, 101, 103, 107, 109, 113, 127, 131, 137, 139, 149, 151, 157, 163, 167, 173};
        for (int t = 1; t < 16; t++) {
            x.chance(0, 0, t, 100);
            x.chance(0, t, 0, 1);
            x.chance(0, t, t, 100);
            x.chance(0, t, t == 1 ? 2 : 1, sums[t] - 101);
        }
        return x;
    }

    private static void rowLong() {
        ChainMoves x = longOne();
        dueRow("9: of itself it fits", x, 0, 0, 1, 1, 101000);
        due("9: LONG above", x.row(0, 0, 0, 0), LONG);
        due("9: LONG below", x.row(0, 0, 0, 1), LONG);
        due("9: BAD ahead of LONG", x.row(0, 0, 0, 2), BAD);
        x.move(0, 0, 0);
        x.move(6, 1, 0);
        x.move(6, 0, 1);
        x.move(5, 1, 0);
        // State 7 is not led to 0 by a redraw of place 0; the told chance from 0 to 0 is asked for yet.
        due("9: CYCLE is LONG also where the first is 0", x.row(2, 7, 0, 0), LONG);
        dueRow("9: CYCLE to another", x, 2, 7, 14, 0, 1);
        due("9: CYCLE is LONG by its first", x.row(3, 0, 5, 0), LONG);
        due("9: MIXED is LONG", x.row(4, 0, 0, 1), LONG);
        due("9: a reach has no fraction", x.reach(2, 0), 16);
        due("9: and a run none", x.run(2, 0, 0, 1), 0);
        due("10: LONG", x.keeps(0), LONG);
        due("10: LONG of a CYCLE", x.keeps(2), LONG);
        due("11: LONG is not asked for from s to s", x.goesBack(0), 1);
        due("11: LONG of a CYCLE", x.goesBack(3), LONG);
    }

    private static void rowAfterChanges() {
        ChainMoves x = line(1, 1);
        x.move(0, 0, 0);
        x.move(3, 0, 0);
        x.move(5, 0, 1);
        x.move(6, 2, 0);
        dueRow("9: at first", x, 3, 0, 1, 1, 2);
        dueRow("9: at first, MIXED", x, 2, 0, 1, 1, 4);
        x.weight(1, 2);
        dueRow("9: after weight", x, 3, 0, 1, 2, 3);
        dueRow("9: after weight, MIXED", x, 2, 0, 1, 1, 3);
        x.odds(2, 3, 1);
        dueRow("9: after odds", x, 2, 0, 1, 1, 2);
        x.chance(1, 0, 1, 1);
        x.chance(1, 1, 0, 1);
        dueRow("9: after chance", x, 2, 0, 1, 3, 4);
        x.model(2, 0, 0, 0);
        x.move(3, 0, 0);
        dueRow("9: after model", x, 0, 0, 1, 0, 1);
    }

    private static void keeps() {
        ChainMoves x = new ChainMoves();
        x.model(3, 3, 0, 0);
        int[] weights = {3, 0, 5, 1, 7, 2, 0, 4, 6};
        for (int s = 0; s < 9; s++) {
            x.weight(s, weights[s]);
        }
        x.move(0, 0, 0);
        x.move(1, 1, 0);
        x.move(2, 0, 1);
        x.move(3, 0, 0);
        x.chance(3, 2, 4, 3);
        x.chance(3, 4, 2, 5);
        x.chance(3, 1, 0, 5);
        x.move(4, 0, 0);
        x.move(5, 0, 3);
        x.move(6, 1, 2);
        x.move(6, 6, 5);
        for (int m = 0; m < 8; m++) {
            due("10: keeps(" + m + ")", x.keeps(m), 1);
        }
        due("10: no move", x.keeps(8), BAD);
        due("10: no move below", x.keeps(-1), BAD);
    }

    private static void goesBack() {
        ChainMoves x = new ChainMoves();
        x.model(2, 2, 0, 0);
        x.weight(3, 3);
        x.move(0, 0, 0);
        x.move(0, 1, 0);
        x.move(5, 0, 1);
        x.move(6, 0, 1);
        x.move(6, 0, 0);
        x.move(1, 0, 0);
        x.move(2, 0, 1);
        x.move(4, 0, 0);
        due("11: REDRAW", x.goesBack(0), 1);
        due("11: MIXED", x.goesBack(2), 1);
        due("11: CYCLE does not", x.goesBack(3), 0);
        due("11: CYCLE of the same", x.goesBack(4), 1);
        due("11: STEP", x.goesBack(5), 1);
        due("11: SWAP", x.goesBack(6), 1);
        due("11: SLICE", x.goesBack(7), 1);
        due("11: no move", x.goesBack(8), BAD);
        due("11: no move below", x.goesBack(-1), BAD);
    }

    private static void reach() {
        ChainMoves x = new ChainMoves();
        x.model(2, 3, 0, 0);
        x.move(0, 1, 0);
        x.move(1, 0, 0);
        x.move(5, 0, 1);
        x.move(6, 0, 1);
        x.move(3, 0, 0);
        x.move(4, 1, 0);
        due("12: REDRAW", x.reach(0, 4), 3);
        due("12: STEP", x.reach(1, 4), 2);
        due("12: MIXED", x.reach(2, 4), 6);
        due("12: CYCLE", x.reach(3, 4), 6);
        due("12: TOLD of no chances", x.reach(4, 4), 1);
        due("12: SLICE", x.reach(5, 0), 3);
        x.weight(3, 0);
        x.weight(5, 0);
        due("12: REDRAW past 0", x.reach(0, 4), 1);
        due("12: REDRAW from 0", x.reach(0, 3), 2);
        due("12: SLICE from 0", x.reach(5, 3), 1);
        due("12: STEP to 0", x.reach(1, 0), 1);
        due("12: STEP from 0", x.reach(1, 3), 2);
        x.weight(4, 0);
        due("12: REDRAW of a line of 0", x.reach(0, 4), 1);
        due("12: STEP from 0", x.reach(1, 4), 2);
        due("12: no move", x.reach(6, 0), BAD);
        due("12: no move below", x.reach(-1, 0), BAD);
        due("12: no state", x.reach(0, 6), BAD);
        due("12: no state below", x.reach(0, -1), BAD);
    }

    /** A told move that never stays goes round; a cycle with it shows whether it may stay. */
    private static void reachWithoutFractions() {
        ChainMoves x = line(1, 1, 1, 1);
        x.move(3, 0, 0);
        x.move(6, 0, 0);
        x.move(1, 0, 0);
        x.move(6, 2, 2);
        for (int s = 0; s < 4; s++) {
            x.chance(0, s, (s + 1) % 4, 5);
            x.chance(0, s, (s + 3) % 4, 5);
        }
        due("12: TOLD twice, never staying", x.reach(1, 0), 2);
        due("12: STEP twice, never staying", x.reach(3, 0), 2);
        x.chance(0, 0, 0, 1);
        due("12: TOLD twice, with staying at 0", x.reach(1, 0), 4);
        x.chance(0, 0, 0, 0);
        x.weight(0, 2);
        due("12: TOLD twice, staying by refusal", x.reach(1, 0), 4);
        due("12: STEP twice, staying by refusal", x.reach(3, 0), 4);
        x.weight(0, 1);
        x.chance(0, 0, 2, 5);
        due("12: TOLD twice, staying by what can't come back", x.reach(1, 0), 4);
    }

    /** The numbers of the document, written once more, for the runs below. */
    private static long numbers;

    private static long draw(long n) {
        numbers = (numbers * 25214903917L + 11) & 0xFFFFFFFFFFFFL;
        return (numbers / 131072) % n;
    }

    private static void runNumbers() {
        // From seed 0: x is 11, then 277363943098: 11 / 2^17 is 0, the other 2116118, both even.
        ChainMoves x = line(1, 1, 1, 1, 1);
        x.move(1, 0, 0);
        due("13: two steps to the next", x.run(0, 0, 2, 0L), 2);
        due("13: bits above 48 are none", x.run(0, 0, 2, 5L << 48), 2);
        due("13: no move", x.run(0, 3, 0, 9L), 3);
        for (long seed : new long[] {1, -1, 42, Long.MIN_VALUE, Long.MAX_VALUE, 123456789012345678L}) {
            numbers = seed & 0xFFFFFFFFFFFFL;
            int s = 0;
            due("13: from seed " + seed, x.run(0, 0, 200, seed), x.trace(200));
            for (int i = 1; i <= 200; i++) {
                s = (s + (draw(2) == 0 ? 1 : 4)) % 5;
                due("13: trace(" + i + ") from seed " + seed, x.trace(i), s);
            }
        }
    }

    private static void runRedrawAndSlice() {
        int[] w = {3, 0, 5, 2};
        ChainMoves x = line(w);
        x.move(0, 0, 0);
        x.move(4, 0, 0);
        numbers = 77;
        x.run(0, 0, 100, 77L);
        for (int i = 1; i <= 100; i++) {
            long d = draw(10);
            due("13: REDRAW, trace(" + i + ")", x.trace(i), d < 3 ? 0 : d < 8 ? 2 : 3);
        }
        numbers = 78;
        x.run(1, 0, 100, 78L);
        int s = 0;
        for (int i = 1; i <= 100; i++) {
            long level = 1 + draw(w[s]);
            int[] high = level <= 2 ? new int[] {0, 2, 3} : level == 3 ? new int[] {0, 2} : new int[] {2};
            s = high[(int) draw(high.length)];
            due("13: SLICE, trace(" + i + ")", x.trace(i), s);
        }
    }

    private static void runToldAndMixed() {
        ChainMoves x = line(4, 6);
        x.move(3, 0, 0);
        x.chance(0, 0, 1, 3);
        x.chance(0, 1, 0, 2);
        x.chance(0, 1, 1, 5);
        x.move(5, 0, 0);
        x.odds(1, 30, 7);
        x.move(1, 0, 0);
        x.move(6, 0, 2);
        numbers = 5;
        int s = 0, refused = 0;
        x.run(0, 0, 200, 5L);
        for (int i = 1; i <= 200; i++) {
            // x and y: 6 * 2 * 3 = 36 and 4 * 3 * 7 = 84 from 0, the other way from 1.
            if (s == 0) {
                draw(3);
                boolean taken = draw(84) < 36;
                s = taken ? 1 : 0;
                refused += taken ? 0 : 1;
            } else {
                s = draw(7) < 2 ? 0 : 1;
            }
            due("13: TOLD, trace(" + i + ")", x.trace(i), s);
        }
        due("16: refused of TOLD", x.refused(), refused);
        mixedDraws(x);
        cycleDraws(x);
    }

    private static void mixedDraws(ChainMoves x) {
        x.move(0, 0, 0);
        x.move(5, 4, 2);
        x.odds(5, 30, 7);
        numbers = 6;
        int s = 0, refused = 0;
        x.run(5, 0, 200, 6L);
        for (int i = 1; i <= 200; i++) {
            if (draw(37) < 30) {
                s = draw(10) < 4 ? 0 : 1;
            } else {
                draw(2);
                boolean taken = s == 0 || draw(6) < 4;
                refused += taken ? 0 : 1;
                s = taken ? 1 - s : s;
            }
            due("13: MIXED, trace(" + i + ")", x.trace(i), s);
        }
        due("16: refused in MIXED", x.refused(), refused);
    }

    private static void cycleDraws(ChainMoves x) {
        x.move(6, 4, 2);
        numbers = 7;
        int refused = 0;
        x.run(6, 0, 200, 7L);
        for (int i = 1; i <= 200; i++) {
            int s = draw(10) < 4 ? 0 : 1;
            draw(2);
            boolean taken = s == 0 || draw(6) < 4;
            refused += taken ? 0 : 1;
            due("13: CYCLE, trace(" + i + ")", x.trace(i), taken ? 1 - s : s);
        }
        due("16: refused in CYCLE", x.refused(), refused);
    }

    /** What stays by a 0, and what is always or never taken, does not draw: a step behind shows it. */
    private static void runWithoutDraws() {
        ChainMoves x = new ChainMoves();
        x.model(2, 5, 0, 0);
        for (int s = 0; s < 10; s++) {
            x.weight(s, 0);
        }
        x.move(1, 1, 0);
        x.move(0, 0, 0);
        x.move(4, 0, 0);
        x.move(3, 0, 0);
        for (int still = 1; still <= 3; still++) {
            x.move(6, still, 0);
            sameAsSteps("13: staying by 0, move " + still, x, 3 + still);
        }
        // From no weight a told proposal is always taken, to itself: one draw, then the step's.
        for (int s = 0; s < 10; s++) {
            x.chance(3, s, s, 2);
        }
        numbers = 31;
        x.run(6, 0, 50, 31L);
        for (int i = 1, s = 0; i <= 50; i++) {
            draw(2);
            s = (s + (draw(2) == 0 ? 1 : 4)) % 5;
            due("13: TOLD, always: trace(" + i + ")", x.trace(i), s);
        }
        due("16: refused of always", x.refused(), 0);
    }

    private static void sameAsSteps(String what, ChainMoves x, int m) {
        numbers = 9;
        x.run(m, 0, 50, 9L);
        for (int i = 1, s = 0; i <= 50; i++) {
            s = (s + (draw(2) == 0 ? 1 : 4)) % 5;
            due(what + ": trace(" + i + ")", x.trace(i), s);
        }
        due(what + ": refused", x.refused(), 0);
    }

    private static void runWrong() {
        ChainMoves x = line(1, 1, 1);
        x.move(1, 0, 0);
        due("13: a run", x.run(0, 1, 3, 0L), x.trace(3));
        due("13: n above", x.run(0, 0, 201, 0L), BAD);
        due("13: n below", x.run(0, 0, -1, 0L), BAD);
        due("13: no move", x.run(1, 0, 1, 0L), BAD);
        due("13: no move below", x.run(-1, 0, 1, 0L), BAD);
        due("13: no state", x.run(0, 3, 1, 0L), BAD);
        due("13: no state below", x.run(0, -1, 1, 0L), BAD);
        due("13: the old run after BAD", x.count(3), 3);
        due("13: its start after BAD", x.trace(0), 1);
    }

    private static void traceAndVisits() {
        ChainMoves x = line(1, 1, 1, 1, 1);
        x.move(1, 0, 0);
        due("14: no run", x.trace(0), STATE);
        due("14: no run, wrong too", x.trace(-1), STATE);
        due("15: no run", x.visits(0), STATE);
        due("15: no run, wrong too", x.visits(9), STATE);
        x.run(0, 3, 2, 0L);
        due("14: at first", x.trace(0), 3);
        due("14: behind 1", x.trace(1), 4);
        due("14: behind 2", x.trace(2), 0);
        due("14: behind the end", x.trace(3), BAD);
        due("14: below", x.trace(-1), BAD);
        due("14: most", x.trace(MAX), BAD);
        due("15: the first", x.visits(3), 1);
        due("15: the last", x.visits(0), 1);
        due("15: never", x.visits(1), 0);
        due("15: no state", x.visits(5), BAD);
        due("15: no state below", x.visits(-1), BAD);
        x.weight(0, 9);
        x.move(0, 0, 0);
        due("14: a weight and a move leave the run", x.trace(2), 0);
        x.run(0, 2, 0, 0L);
        due("14: the latest run", x.trace(0), 2);
        due("14: the old run is gone", x.trace(1), BAD);
        due("15: the latest run", x.visits(3), 0);
        due("15: the latest run's start", x.visits(2), 1);
    }

    private static void refused() {
        ChainMoves x = new ChainMoves();
        x.model(2, 2, 0, 0);
        x.weight(0, 0);
        x.weight(2, 0);
        x.weight(3, 0);
        due("16: no run", x.refused(), STATE);
        x.move(1, 0, 0);
        x.move(2, 0, 1);
        x.move(3, 0, 0);
        x.move(0, 0, 0);
        x.move(4, 0, 0);
        x.move(6, 0, 1);
        x.run(0, 1, 10, 3L);
        due("16: STEP", x.refused(), 10);
        x.run(1, 1, 11, 3L);
        due("16: SWAP", x.refused(), 11);
        x.run(1, 0, 11, 3L);
        due("16: SWAP to itself is taken", x.refused(), 0);
        x.run(2, 1, 12, 3L);
        due("16: TOLD of no chances proposes nothing", x.refused(), 0);
        x.chance(2, 1, 0, 1);
        x.run(2, 1, 12, 3L);
        due("16: TOLD, never", x.refused(), 12);
        x.run(3, 1, 12, 3L);
        due("16: REDRAW refuses nothing", x.refused(), 0);
        x.run(4, 1, 12, 3L);
        due("16: SLICE refuses nothing", x.refused(), 0);
        x.run(5, 1, 12, 3L);
        due("16: both of a CYCLE", x.refused(), 24);
        due("16: BAD run", x.run(5, 1, 201, 3L), BAD);
        due("16: after BAD", x.refused(), 24);
    }

    private static void together() {
        ChainMoves x = new ChainMoves();
        x.model(5, 2, 0, 0);
        x.move(1, 0, 0);
        due("17: no run", x.together(0, 0), STATE);
        due("17: no run, wrong too", x.together(9, -1), STATE);
        x.run(0, 5, 2, 0L);
        // The values of place 0 are 2, 3, 4.
        due("17: lag 0", x.together(0, 0), 3 * 29 - 9 * 9);
        due("17: lag 1", x.together(0, 1), 2 * 18 - 5 * 7);
        due("17: lag 2", x.together(0, 2), 0);
        due("17: place 1", x.together(1, 0), 0);
        due("17: no place", x.together(2, 0), BAD);
        due("17: no place below", x.together(-1, 0), BAD);
        due("17: lag above", x.together(0, 3), BAD);
        due("17: lag below", x.together(0, -1), BAD);
        x.run(0, 7, 1, 0L);
        // 3, 4 at place 0, and 1, 1 at place 1.
        due("17: two values", x.together(0, 0), 2 * 25 - 49);
        due("17: one of the numbers", x.together(1, 0), 0);
        x.run(0, 6, 2, 0L);
        // 3, 4, 0: 2 * 12 - 7 * 4.
        due("17: it may be one of the numbers", x.together(0, 1), -4);
    }

    private static void count() {
        ChainMoves x = new ChainMoves();
        x.model(2, 3, 2, 0);
        x.move(3, 0, 0);
        x.move(3, 0, 0);
        due("18: places", x.count(0), 3);
        due("18: states", x.count(1), 12);
        due("18: moves", x.count(2), 2);
        due("18: no run", x.count(3), -1);
        x.run(0, 0, 0, 0L);
        due("18: a run of none", x.count(3), 0);
        x.run(0, 0, 200, 0L);
        due("18: a run", x.count(3), 200);
        due("18: above", x.count(4), BAD);
        due("18: below", x.count(-1), BAD);
        due("18: most", x.count(MAX), BAD);
    }
}
