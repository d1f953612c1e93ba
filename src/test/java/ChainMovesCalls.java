import java.util.Arrays;

/** The boundary cases of the calls, promises 1 to 18: what each refuses, and that nothing changes then. */
public final class ChainMovesCalls {
    private static final int BAD = -1, STATE = -2, FULL = -3, LONG = -4, DEEP = -5;
    private static final int MIN = Integer.MIN_VALUE, MAX = Integer.MAX_VALUE;
    private static final int REDRAW = 0, STEP = 1, SWAP = 2, TOLD = 3, SLICE = 4, MIXED = 5, CYCLE = 6;
    private static final long[] ANY = {MIN, MIN + 1, -1, 0, 1, 2, 9, 10, 77, MAX - 1, MAX};
    private static final int[][] MODELS = {{2, 0, 0, 0}, {6, 0, 0, 0}, {2, 2, 0, 0}, {3, 5, 0, 0}, {2, 3, 2, 0},
        {2, 2, 4, 0}, {2, 2, 2, 2}};

    public static void main(String[] args) {
        newObject();
        modelOnNewObject();
        modelSizes();
        modelNotZeroBehindZero();
        modelOfTooMany();
        modelForgets();
        modelForgetsPlaces();
        weightRefused();
        weightOfOneState();
        stateValues();
        stateOfPlacesThatAreNot();
        valueRefused();
        moveKind();
        movePlaces();
        moveOfTwoPlaces();
        moveOfMoves();
        moveNamesAny();
        moveInThisOrder();
        moveWithOddsOfOne();
        oddsRefused();
        oddsOfMixedAlone();
        chanceRefused();
        chanceOfToldAlone();
        rowRefused();
        rowBadAheadOfLong();
        keepsRefused();
        keepsIsLongByNoWeight();
        goesBackRefused();
        goesBackOfEachPair();
        goesBackInTheirOrder();
        reachOfItself();
        reachByARow();
        reachOfEachKind();
        reachOfMoves();
        reachOfWhatMayStay();
        reachOfWhatStaysByZero();
        reachWithoutFractions();
        reachRefused();
        runOfNoneAndMost();
        runRefused();
        stateAheadOfBadWithoutRun();
        traceOfLatest();
        visitsAtFirst();
        refusedOfLatest();
        togetherWhereBothAre();
        togetherIsOneOfTheNumbers();
        togetherRefused();
        countOfAll();
        mostCalls();
        objectsAlone();
        Chain.end();
    }

    private static Chain model(int... size) {
        Chain c = new Chain();
        c.ask("model", size[0], size[1], size[2], size[3]);
        return c;
    }

    private static int placesOf(int... size) {
        return (int) Arrays.stream(size).filter(v -> v > 0).count();
    }

    private static int statesOf(int... size) {
        return Arrays.stream(size).filter(v -> v > 0).reduce(1, (a, b) -> a * b);
    }

    /** Two places of 2 values and one of 3; a move of each kind, 0 to 6; nothing is as it is at first. */
    private static Chain busy() {
        Chain c = new Chain().due(12, "model", 2, 2, 3, 0);
        for (int s = 0; s < 12; s++) {
            c.due(1, "weight", s, 2 + s * 5 % 7);
        }
        c.due(0, "move", REDRAW, 2, 0).due(1, "move", STEP, 2, 0).due(2, "move", SWAP, 0, 1);
        c.due(3, "move", TOLD, 0, 0).due(4, "move", SLICE, 0, 0).due(5, "move", MIXED, 0, 3);
        c.due(6, "move", CYCLE, 5, 2).due(1, "odds", 5, 2, 3);
        c.due(0, "chance", 3, 0, 7, 4).due(0, "chance", 3, 7, 0, 9).due(0, "chance", 3, 7, 2, 5);
        c.ask("run", 6, 1, 9, 12345);
        return c;
    }

    // Promises 1 and 2

    private static void newObject() {
        Chain.sentence("Promise 1: No MODEL. STATE comes ahead of BAD");
        String[] calls = {"weight", "state", "value", "move", "odds", "chance", "row", "keeps", "goesBack", "reach",
            "run", "trace", "visits", "refused", "together"};
        for (long v : ANY) {
            Chain c = new Chain();
            for (String call : calls) {
                c.refuse(STATE, call, v, v, v, v);
            }
        }
        Chain c = new Chain().due(0, "count", 0).due(0, "count", 1).due(0, "count", 2).due(-1, "count", 3);
        c.refuse(STATE, "move", TOLD, 0, 0).refuse(STATE, "move", 7, 0, 0).refuse(STATE, "run", 0, 0, 201, 0);
    }

    private static void modelOnNewObject() {
        Chain.sentence("Promise 2: BAD, and then there is no MODEL yet");
        Chain c = new Chain().refuse(BAD, "model", 0, 0, 0, 0).refuse(BAD, "model", 7, 0, 0, 0);
        c.refuse(BAD, "model", 6, 3, 0, 0).refuse(BAD, "model", 2, 0, 2, 0).refuse(STATE, "weight", 0, 1);
        c.refuse(STATE, "keeps", 0).due(0, "count", 0).due(0, "count", 1).due(2, "model", 2, 0, 0, 0);
    }

    private static void modelSizes() {
        Chain.sentence("Promise 2: BAD: a is not 2 to 6, others not 0, 2 to 6");
        Chain c = busy();
        long[] none = Chain.outside(2, 6);
        c.refuse(BAD, "model", 0, 0, 0, 0).refuse(BAD, "model", 0, 2, 2, 2).refuse(BAD, "model", 0, 2, 0, 0);
        c.refuseEach(BAD, 0, none, "model", 2, 0, 0, 0).refuseEach(BAD, 0, none, "model", 2, 2, 2, 2);
        c.refuseEach(BAD, 1, none, "model", 2, 2, 0, 0).refuseEach(BAD, 1, none, "model", 2, 2, 2, 2);
        c.refuseEach(BAD, 2, none, "model", 2, 2, 2, 0).refuseEach(BAD, 2, none, "model", 2, 2, 2, 2);
        c.refuseEach(BAD, 3, none, "model", 2, 2, 2, 2);
        c.due(12, "count", 1).due(7, "count", 2).due(9, "count", 3);
        for (int size = 2; size <= 6; size++) {
            c.due(size, "model", size, 0, 0, 0).due(2 * size, "model", 2, size, 0, 0);
            c.due(size <= 4 ? 4 * size : BAD, "model", 2, 2, size, 0);
            c.due(size == 2 ? 16 : BAD, "model", 2, 2, 2, size);
        }
    }

    private static void modelNotZeroBehindZero() {
        Chain.sentence("Promise 2: (0: there is no such PLACE, nor any behind) BAD: one is not 0 behind 0");
        Chain c = busy();
        c.refuse(BAD, "model", 2, 0, 2, 0).refuse(BAD, "model", 2, 0, 0, 2).refuse(BAD, "model", 2, 0, 2, 2);
        c.refuse(BAD, "model", 2, 2, 0, 2).refuse(BAD, "model", 6, 0, 6, 0).refuse(BAD, "model", 6, 0, 0, 6);
        c.due(2, "model", 2, 0, 0, 0).due(1, "count", 0).due(4, "model", 2, 2, 0, 0).due(2, "count", 0);
        c.due(8, "model", 2, 2, 2, 0).due(3, "count", 0).due(16, "model", 2, 2, 2, 2).due(4, "count", 0);
    }

    private static void modelOfTooMany() {
        Chain.sentence("Promise 2: BAD: more than 16 STATES");
        Chain c = busy();
        int[][] over = {{3, 6, 0, 0}, {6, 3, 0, 0}, {4, 5, 0, 0}, {5, 4, 0, 0}, {6, 6, 0, 0}, {2, 3, 3, 0},
            {3, 3, 2, 0}, {2, 2, 5, 0}, {2, 2, 2, 3}, {3, 2, 2, 2}, {2, 2, 2, 6}, {6, 6, 6, 6}};
        for (int[] each : over) {
            c.refuse(BAD, "model", each[0], each[1], each[2], each[3]);
        }
        c.due(15, "model", 3, 5, 0, 0).due(15, "model", 5, 3, 0, 0).due(16, "model", 4, 4, 0, 0);
        c.due(16, "model", 2, 2, 4, 0).due(16, "model", 4, 2, 2, 0).due(16, "model", 2, 2, 2, 2);
    }

    private static void modelForgets() {
        Chain.sentence("Promise 2: MOVES, WEIGHTS, RUN of the old one are gone.");
        Chain c = busy().dueRow(1, 2, 1, 0, 1).due(12, "model", 2, 2, 3, 0);
        c.due(0, "count", 2).due(-1, "count", 3).due(3, "count", 0).due(12, "count", 1);
        c.refuse(STATE, "trace", 0).refuse(STATE, "visits", 0).refuse(STATE, "refused");
        c.refuse(STATE, "together", 0, 0).refuse(BAD, "keeps", 0).refuse(BAD, "run", 0, 0, 1, 1);
        c.refuse(BAD, "move", MIXED, 0, 0).refuse(BAD, "odds", 5, 1, 1).refuse(BAD, "chance", 3, 0, 7, 1);
        // The numbers of the old ones are given to others.
        c.due(0, "move", TOLD, 0, 0).due(1, "move", TOLD, 0, 0).due(2, "move", REDRAW, 0, 0);
        c.due(3, "move", TOLD, 0, 0).due(4, "move", REDRAW, 1, 0).due(5, "move", MIXED, 2, 4);
        c.dueRow(1, 1, 1, 0, 0).dueRow(1, 1, 3, 7, 7).dueRow(0, 1, 3, 0, 7).dueRow(1, 2, 2, 0, 6);
        c.dueRow(1, 4, 5, 0, 6).dueRow(1, 4, 5, 0, 3).dueRow(1, 2, 5, 0, 0);
        c.due(0, "chance", 3, 0, 7, 1).due(0, "chance", 3, 7, 0, 1).dueRow(1, 1, 3, 7, 0);
        for (int s = 0; s < 12; s++) {
            c.due(1, "weight", s, 1);
        }
    }

    private static void modelForgetsPlaces() {
        Chain.sentence("Promise 2: a MODEL of so many VALUES at PLACES, whatever was there ahead of it");
        Chain c = busy().due(2, "model", 2, 0, 0, 0).due(1, "count", 0).due(2, "count", 1);
        c.refuse(BAD, "value", 0, 1).refuse(BAD, "value", 2, 0).refuse(BAD, "weight", 2, 1);
        c.refuse(BAD, "move", REDRAW, 1, 0).refuse(BAD, "move", SWAP, 0, 1).refuse(BAD, "state", 2, 0, 0, 0);
        c.due(0, "move", STEP, 0, 0).refuse(BAD, "run", 0, 2, 1, 1).refuse(BAD, "reach", 0, 2);
        c.due(16, "model", 4, 4, 0, 0).due(3, "value", 15, 0).due(3, "value", 15, 1).due(2, "value", 11, 0);
        c.due(1, "weight", 15, 0).due(13, "state", 3, 1, 0, 0);
    }

    // Promises 3 to 5

    private static void weightRefused() {
        Chain.sentence("Promise 3: weight: what it was. STATE; BAD.");
        Chain c = busy();
        c.refuseEach(BAD, 0, Chain.outside(0, 11), "weight", 0, 5);
        c.refuseEach(BAD, 1, Chain.outside(0, 1000), "weight", 0, 5);
        c.refuseEach(BAD, 1, Chain.outside(0, 1000), "weight", 11, 5);
        c.refuse(BAD, "weight", -1, -1).refuse(BAD, "weight", 12, 1001).refuse(BAD, "weight", MIN, MAX);
        c.due(2, "weight", 0, 0).due(0, "weight", 0, 1000).due(1000, "weight", 0, 1).due(1, "weight", 0, 1);
        for (int[] size : MODELS) {
            int states = statesOf(size);
            Chain d = model(size).due(1, "weight", 0, 7).due(1, "weight", states - 1, 8);
            d.refuse(BAD, "weight", states, 1).refuse(BAD, "weight", -1, 1);
            d.due(7, "weight", 0, 1).due(8, "weight", states - 1, 1);
        }
    }

    private static void weightOfOneState() {
        Chain.sentence("Promise 3: a WEIGHT is of its STATE alone, and the RUN and the MOVES stay");
        Chain c = new Chain().due(16, "model", 2, 2, 2, 2).due(0, "move", STEP, 0, 0).due(3, "run", 0, 3, 4, 0);
        for (int s = 0; s < 16; s++) {
            c.due(1, "weight", s, 100 + s);
        }
        for (int s = 15; s >= 0; s--) {
            c.due(100 + s, "weight", s, 200 + s);
        }
        c.due(1, "count", 2).due(4, "count", 3).due(3, "trace", 0).due(3, "trace", 4);
    }

    private static void stateValues() {
        Chain.sentence("Promise 4: state: the STATE with these VALUES. STATE; BAD.");
        for (int[] size : MODELS) {
            Chain c = model(size);
            long[] last = new long[4];
            for (int place = 0; place < placesOf(size); place++) {
                last[place] = size[place] - 1;
            }
            c.due(0, "state", 0, 0, 0, 0).due(statesOf(size) - 1, "state", last);
            for (int place = 0; place < placesOf(size); place++) {
                long[] none = Chain.outside(0, size[place] - 1);
                c.refuseEach(BAD, place, none, "state", 0, 0, 0, 0).refuseEach(BAD, place, none, "state", last);
            }
        }
        // One too much at a place is none that is one more at the place ahead of it.
        Chain c = model(2, 3, 2, 0).refuse(BAD, "state", 0, 0, 2, 0).refuse(BAD, "state", 0, 3, -2, 0);
        c.refuse(BAD, "state", 1, -1, 0, 0).refuse(BAD, "state", 0, -1, 2, 0).refuse(BAD, "state", MIN, 3, 2, 0);
    }

    private static void stateOfPlacesThatAreNot() {
        Chain.sentence("Promise 4: state: (of PLACES that there are)");
        for (int[] size : MODELS) {
            for (int place = placesOf(size); place < 4; place++) {
                Chain c = model(size);
                for (long v : ANY) {
                    long[] a = {1, 1, 1, 1};
                    int want = 0;
                    for (int p = 0; p < placesOf(size); p++) {
                        want = want * size[p] + 1;
                    }
                    a[place] = v;
                    c.due(want, "state", a);
                    a[0] = size[0];
                    c.due(BAD, "state", a);
                }
            }
        }
    }

    private static void valueRefused() {
        Chain.sentence("Promise 5: value: the VALUE of a STATE at a PLACE. STATE; BAD.");
        for (int[] size : MODELS) {
            Chain c = model(size).due(0, "value", 0, 0).due(size[0] - 1, "value", statesOf(size) - 1, 0);
            int last = placesOf(size) - 1;
            c.due(0, "value", 0, last).due(size[last] - 1, "value", statesOf(size) - 1, last);
            c.refuseEach(BAD, 0, Chain.outside(0, statesOf(size) - 1), "value", 0, 0);
            c.refuseEach(BAD, 1, Chain.outside(0, last), "value", 0, 0);
            c.refuse(BAD, "value", -1, -1).refuse(BAD, "value", MAX, MAX).refuse(BAD, "value", MIN, MIN);
        }
    }

    // Promise 6

    private static void moveKind() {
        Chain.sentence("Promise 6: move: BAD: the kind");
        Chain c = busy().refuseEach(BAD, 0, Chain.outside(0, 6), "move", 0, 0, 1);
        Chain full = busy().due(7, "move", TOLD, 0, 0).due(8, "move", TOLD, 0, 0).due(9, "move", TOLD, 0, 0);
        full.refuseEach(BAD, 0, Chain.outside(0, 6), "move", 0, 0, 1).refuse(FULL, "move", REDRAW, 0, 1);
        c.due(7, "move", 0, 0, 1).due(8, "move", 6, 0, 1).due(9, "count", 2);
    }

    private static void movePlaces() {
        Chain.sentence("Promise 6: move: BAD: a: no PLACES (kinds 0, 1, 4)");
        for (int[] size : MODELS) {
            int last = placesOf(size) - 1;
            for (int kind : new int[] {REDRAW, STEP, SLICE}) {
                Chain c = model(size).refuseEach(BAD, 1, Chain.outside(0, last), "move", kind, 0, 0);
                c.due(0, "move", kind, last, 0).due(1, "move", kind, 0, 0);
                // A number of a MOVE is none of a PLACE.
                c.refuse(BAD, "move", kind, last + 1, 0);
            }
        }
    }

    private static void moveOfTwoPlaces() {
        Chain.sentence("Promise 6: move: BAD: a, b: no PLACES, not two, not as many VALUES (kind 2)");
        Chain c = busy();
        c.refuseEach(BAD, 1, Chain.outside(0, 2), "move", SWAP, 0, 1);
        c.refuseEach(BAD, 2, Chain.outside(0, 2), "move", SWAP, 0, 1);
        c.refuse(BAD, "move", SWAP, 0, 0).refuse(BAD, "move", SWAP, 1, 1).refuse(BAD, "move", SWAP, 2, 2);
        c.refuse(BAD, "move", SWAP, 0, 2).refuse(BAD, "move", SWAP, 2, 0).refuse(BAD, "move", SWAP, 1, 2);
        c.refuse(BAD, "move", SWAP, 3, 3).refuse(BAD, "move", SWAP, -1, -1).refuse(BAD, "move", SWAP, MAX, MIN);
        c.due(7, "move", SWAP, 0, 1).due(8, "move", SWAP, 1, 0);
        model(6, 0, 0, 0).refuse(BAD, "move", SWAP, 0, 1).refuse(BAD, "move", SWAP, 0, 0);
        Chain four = model(2, 2, 2, 2).refuse(BAD, "move", SWAP, 3, 4).refuse(BAD, "move", SWAP, 3, 3);
        four.due(0, "move", SWAP, 3, 0).due(1, "move", SWAP, 2, 3);
    }

    private static void moveOfMoves() {
        Chain.sentence("Promise 6: move: BAD: a, b: no MOVES (5, 6 may have the same twice)");
        for (int kind = MIXED; kind <= CYCLE; kind++) {
            Chain none = model(2, 2, 3, 0);
            for (long v : ANY) {
                none.refuse(BAD, "move", kind, v, v);
            }
            Chain c = busy().refuseEach(BAD, 1, Chain.outside(0, 6), "move", kind, 0, 1);
            c.refuseEach(BAD, 2, Chain.outside(0, 6), "move", kind, 0, 1).refuse(BAD, "move", kind, 7, 7);
            c.due(7, "move", kind, 0, 0).due(8, "move", kind, 5, 5).due(9, "move", kind, 4, 0);
            c.refuse(FULL, "move", kind, 9, 9).refuse(BAD, "move", kind, 10, 9).refuse(BAD, "move", kind, 9, 10);
        }
    }

    private static void moveNamesAny() {
        Chain.sentence("Promise 6: move: what a kind does not name is any");
        for (int kind : new int[] {REDRAW, STEP, SLICE}) {
            Chain c = model(2, 3, 0, 0);
            for (int m = 0; m < 10; m++) {
                c.due(m, "move", kind, 1, ANY[m]);
            }
            for (int m = 0; m < 10; m++) {
                c.due(1, "keeps", m).due(3, "reach", m, 0).due(BAD, "odds", m, 1, 1);
            }
            Chain d = model(2, 3, 0, 0).due(0, "move", kind, 1, 0).due(1, "move", kind, 1, MAX);
            d.dueRow(1, kind == STEP ? 2 : 3, 1, 0, 2).due(1, "weight", 4, 3);
            for (int seed = 0; seed < 40; seed++) {
                d.due(d.ask("run", 0, 3, 9, seed * 1234567L), "run", 1, 3, 9, seed * 1234567L);
                d.due(0, "visits", 0);
            }
        }
        Chain told = model(2, 3, 0, 0);
        for (int m = 0; m < 10; m++) {
            told.due(m, "move", TOLD, ANY[m], ANY[10 - m]);
        }
        for (int m = 0; m < 10; m++) {
            told.due(0, "chance", m, 0, 5, m).due(1, "reach", m, 0).due(m, "chance", m, 0, 5, 0);
        }
    }

    private static void moveInThisOrder() {
        Chain.sentence("Promise 6: move: STATE; BAD; DEEP; FULL. (In this order.)");
        new Chain().refuse(STATE, "move", 9, 0, 0).refuse(STATE, "move", CYCLE, 0, 0);
        for (int kind = MIXED; kind <= CYCLE; kind++) {
            Chain c = busy();
            c.refuse(DEEP, "move", kind, 6, 0).refuse(DEEP, "move", kind, 0, 6).refuse(DEEP, "move", kind, 6, 6);
            c.refuse(BAD, "move", kind, 6, 7).refuse(BAD, "move", kind, 7, 6).refuse(BAD, "move", kind, -1, 6);
            c.due(7, "move", TOLD, 0, 0).due(8, "move", kind, 5, 5).refuse(DEEP, "move", kind, 8, 0);
            c.due(9, "move", kind, 0, 0);
            // Full by now: what is BAD or DEEP stays that.
            c.refuse(FULL, "move", kind, 0, 0).refuse(FULL, "move", kind, 5, 9).refuse(FULL, "move", TOLD, 0, 0);
            c.refuse(DEEP, "move", kind, 6, 0).refuse(DEEP, "move", kind, 0, 8).refuse(BAD, "move", kind, 6, 10);
            c.refuse(BAD, "move", kind, 10, 0).refuse(BAD, "move", REDRAW, 3, 0).refuse(BAD, "move", SWAP, 0, 2);
            c.refuse(BAD, "move", 7, 6, 0).due(10, "count", 2);
        }
    }

    private static void moveWithOddsOfOne() {
        Chain.sentence("Promise 6: move: (5: with p, q 1 each.)");
        Chain c = Chain.line(1, 3).due(0, "move", REDRAW, 0, 0).due(1, "move", TOLD, 0, 0);
        c.due(2, "move", MIXED, 0, 1).dueRow(3, 8, 2, 0, 1).due(1, "odds", 2, 1, 3).dueRow(3, 16, 2, 0, 1);
        c.due(3, "move", MIXED, 0, 1).dueRow(3, 8, 3, 0, 1).dueRow(3, 16, 2, 0, 1);
        c.due(2, "model", 2, 0, 0, 0).due(0, "move", REDRAW, 0, 0).due(1, "move", TOLD, 0, 0);
        c.due(2, "move", MIXED, 0, 1).dueRow(1, 4, 2, 0, 1);
    }

    // Promises 7 and 8

    private static void oddsRefused() {
        Chain.sentence("Promise 7: odds p and q (1 to 100): 1. STATE; BAD.");
        Chain c = busy();
        c.refuseEach(BAD, 1, Chain.outside(1, 100), "odds", 5, 1, 1);
        c.refuseEach(BAD, 2, Chain.outside(1, 100), "odds", 5, 1, 1);
        c.refuseEach(BAD, 0, Chain.outside(0, 6), "odds", 5, 1, 1);
        c.refuse(BAD, "odds", 5, 0, 0).refuse(BAD, "odds", 5, 101, 101).refuse(BAD, "odds", 5, -1, 3);
        Chain d = Chain.line(1, 1).due(0, "move", REDRAW, 0, 0).due(1, "move", TOLD, 0, 0);
        d.due(2, "move", MIXED, 0, 1).due(1, "odds", 2, 1, 100).dueRow(1, 202, 2, 0, 1);
        d.due(1, "odds", 2, 100, 1).dueRow(50, 101, 2, 0, 1).due(1, "odds", 2, 100, 100).dueRow(1, 4, 2, 0, 1);
        d.due(1, "odds", 2, 1, 1).dueRow(1, 4, 2, 0, 1).due(1, "odds", 2, 99, 1).dueRow(99, 200, 2, 0, 1);
    }

    private static void oddsOfMixedAlone() {
        Chain.sentence("Promise 7: odds of MOVE m, which is MIXED");
        Chain c = busy();
        for (int m : new int[] {0, 1, 2, 3, 4, 6}) {
            c.refuse(BAD, "odds", m, 7, 5);
        }
        c.due(7, "move", MIXED, 5, 0).due(8, "move", TOLD, 0, 0).due(9, "move", MIXED, 4, 8);
        c.refuse(BAD, "odds", 8, 7, 5).refuse(BAD, "odds", 10, 7, 5);
        // From 8, of weight 7, five levels have 2, of weight 5, too: 1 / 5 of 5 / 14.
        c.due(1, "odds", 9, 1, 4).due(1, "odds", 7, 4, 1).dueRow(1, 14, 9, 8, 2);
    }

    private static void chanceRefused() {
        Chain.sentence("Promise 8: chance: c(s, t) of a MOVE: what it was. STATE; BAD.");
        Chain c = busy();
        c.refuseEach(BAD, 0, Chain.outside(0, 6), "chance", 3, 0, 7, 5);
        c.refuseEach(BAD, 1, Chain.outside(0, 11), "chance", 3, 0, 7, 5);
        c.refuseEach(BAD, 2, Chain.outside(0, 11), "chance", 3, 0, 7, 5);
        c.refuseEach(BAD, 3, Chain.outside(0, 100), "chance", 3, 0, 7, 5);
        c.refuse(BAD, "chance", 3, 0, 12, 0).refuse(BAD, "chance", 3, 0, 16, 0).refuse(BAD, "chance", 3, 1, -9, 0);
        c.due(4, "chance", 3, 0, 7, 100).due(100, "chance", 3, 0, 7, 0).due(0, "chance", 3, 0, 7, 4);
        c.due(0, "chance", 3, 11, 11, 6).due(0, "chance", 3, 11, 0, 7).due(0, "chance", 3, 0, 11, 8);
        c.due(6, "chance", 3, 11, 11, 6).due(7, "chance", 3, 11, 0, 7).due(8, "chance", 3, 0, 11, 8);
        for (int[] size : MODELS) {
            int states = statesOf(size);
            Chain d = model(size).due(0, "move", TOLD, 0, 0).refuse(BAD, "chance", 0, states, 0, 1);
            d.refuse(BAD, "chance", 0, 0, states, 1).due(0, "chance", 0, states - 1, states - 1, 1);
        }
    }

    private static void chanceOfToldAlone() {
        Chain.sentence("Promise 8: chance of a MOVE, which is TOLD");
        Chain c = busy();
        for (int m : new int[] {0, 1, 2, 4, 5, 6}) {
            c.refuse(BAD, "chance", m, 0, 7, 5).refuse(BAD, "chance", m, 0, 7, 0);
        }
        c.due(7, "move", TOLD, 0, 0).due(0, "chance", 7, 0, 7, 2).due(4, "chance", 3, 0, 7, 4);
        c.due(2, "chance", 7, 0, 7, 2);
    }

    // Promises 9 to 12

    private static void rowRefused() {
        Chain.sentence("Promise 9: row: above (part = 0) or below (1). STATE; BAD; LONG.");
        Chain c = busy();
        c.refuseEach(BAD, 0, Chain.outside(0, 6), "row", 0, 0, 0, 0);
        c.refuseEach(BAD, 1, Chain.outside(0, 11), "row", 0, 0, 0, 0);
        c.refuseEach(BAD, 2, Chain.outside(0, 11), "row", 0, 0, 0, 0);
        c.refuseEach(BAD, 3, Chain.outside(0, 1), "row", 0, 0, 0, 0);
        // Weights of 2, 7, 5 in the line.
        c.due(5, "row", 0, 0, 2, 0).due(14, "row", 0, 0, 2, 1).due(1, "row", 0, 2, 1, 0).due(2, "row", 0, 2, 1, 1);
        for (int[] size : MODELS) {
            int states = statesOf(size);
            Chain d = model(size).refuse(BAD, "row", 0, 0, 0, 0).due(0, "move", TOLD, 0, 0);
            d.refuse(BAD, "row", 0, states, 0, 0).refuse(BAD, "row", 0, 0, states, 0);
            d.dueRow(1, 1, 0, states - 1, states - 1).refuse(BAD, "row", 1, 0, 0, 0);
        }
    }

    /** From 0 to 0 it is LONG, by ways to 1 .. 7 with chances of 1 / coprime sums; 8 to 15 never lead back. */
    private static Chain longHub() {
        int[] sums = {512, 511, 513, 509, 515, 503, 523};
        Chain c = new Chain().due(16, "model", 2, 2, 2, 2).due(0, "move", TOLD, 0, 0);
        for (int t = 1; t <= 7; t++) {
            c.due(0, "chance", 0, 0, t, 100).due(0, "chance", 0, t, 0, 1);
            for (int u = 8, left = sums[t - 1] - 1; left > 0; u++) {
                c.due(0, "chance", 0, t, u, Math.min(left, 100));
                left -= Math.min(left, 100);
            }
        }
        return c.due(9, "run", 0, 9, 5, 1);
    }

    private static void rowBadAheadOfLong() {
        Chain.sentence("Promise 9: row: BAD ahead of LONG");
        Chain c = longHub().refuse(LONG, "row", 0, 0, 0, 0).refuse(LONG, "row", 0, 0, 0, 1);
        c.refuseEach(BAD, 3, Chain.outside(0, 1), "row", 0, 0, 0, 0).refuse(BAD, "row", 0, 0, 16, 0);
        c.refuse(BAD, "row", 1, 0, 0, 0).refuse(LONG, "row", 0, 0, 0, 0).dueRow(1, 523, 0, 0, 7);
    }

    private static void keepsRefused() {
        Chain.sentence("Promise 10: keeps: STATE; BAD; LONG (at the first that comes to it).");
        Chain c = busy().refuseEach(BAD, 0, Chain.outside(0, 6), "keeps", 0);
        for (int m = 0; m < 7; m++) {
            c.due(1, "keeps", m);
        }
        longHub().refuse(LONG, "keeps", 0).refuse(BAD, "keeps", 1).refuse(BAD, "keeps", -1);
        for (int[] size : MODELS) {
            Chain d = model(size).refuse(BAD, "keeps", 0).due(0, "move", REDRAW, 0, 0).due(1, "keeps", 0);
            for (int s = 0; s < statesOf(size); s++) {
                d.due(1, "weight", s, 0);
            }
            d.due(1, "keeps", 0).due(1, "goesBack", 0);
        }
    }

    private static final int[] TOO_MANY = {512, 511, 513, 509, 515, 503, 523};

    /** No state has a weight. From s it goes to one of r .. r + 6, all alike, from these with 1 / a sum to t. */
    private static Chain longFromNoWeight(int s, int r, int t, int... sums) {
        Chain c = new Chain().due(16, "model", 2, 2, 2, 2).due(0, "move", TOLD, 0, 0).due(1, "move", TOLD, 0, 0);
        for (int u = 0; u < 16; u++) {
            c.due(1, "weight", u, 0);
        }
        for (int i = 0; i < 7; i++) {
            c.due(0, "chance", 0, s, r + i, 1).due(0, "chance", 1, r + i, t, 1);
            for (int u = r, left = sums[i] - 1; left > 0; u++) {
                c.due(0, "chance", 1, r + i, u, Math.min(left, 100));
                left -= Math.min(left, 100);
            }
        }
        return c.due(2, "move", CYCLE, 0, 1);
    }

    private static void keepsIsLongByNoWeight() {
        Chain.sentence("Promises 10, 11: LONG by CHANCE(s, t), also where w(s) is 0");
        Chain c = longFromNoWeight(0, 1, 8, TOO_MANY).due(3, "run", 0, 3, 5, 1);
        c.refuse(LONG, "row", 2, 0, 8, 0).dueRow(1, 523, 2, 7, 8).due(1, "keeps", 0).due(1, "keeps", 1);
        c.refuse(LONG, "keeps", 2).refuse(LONG, "goesBack", 2).due(8, "reach", 2, 0);
        // The way back, from t to s, is LONG alone.
        Chain back = longFromNoWeight(15, 1, 8, TOO_MANY).due(LONG, "row", 2, 15, 8, 0).dueRow(0, 1, 2, 8, 15);
        back.refuse(LONG, "goesBack", 2).refuse(LONG, "keeps", 2);
        Chain d = longFromNoWeight(0, 1, 8, 2, 4, 8, 16, 32, 64, 128);
        d.dueRow(127, 896, 2, 0, 8).due(1, "keeps", 2).due(1, "goesBack", 2);
    }

    private static void goesBackRefused() {
        Chain.sentence("Promise 11: goesBack: 1, 0. STATE; BAD; LONG (likewise).");
        Chain c = busy().refuseEach(BAD, 0, Chain.outside(0, 6), "goesBack", 0);
        for (int m = 0; m < 6; m++) {
            c.due(1, "goesBack", m);
        }
        c.due(0, "goesBack", 6);
        // From 0 to 0 it is LONG, which is not asked for.
        longHub().due(1, "goesBack", 0).refuse(BAD, "goesBack", 1).refuse(BAD, "goesBack", -1);
    }

    /** Two that go from place to place do not go back in their order: it is seen at one pair alone. */
    private static void goesBackOfEachPair() {
        Chain.sentence("Promise 11: goesBack: for all s below t, s in their order, t for each");
        for (int last = 2; last < 16; last++) {
            Chain c = new Chain().due(16, "model", 2, 2, 2, 2).due(0, "move", TOLD, 0, 0).due(1, "move", TOLD, 0, 0);
            int[] three = {last - 2, last - 1, last};
            for (int s = 0; s < 2; s++) {
                c.due(0, "chance", s, three[s], three[s + 1], 1).due(0, "chance", s, three[s + 1], three[s], 1);
            }
            c.due(2, "move", CYCLE, 0, 1).due(1, "goesBack", 0).due(1, "goesBack", 1).due(0, "goesBack", 2);
            c.due(3, "move", CYCLE, 0, 0).due(1, "goesBack", 3).due(1, "keeps", 2);
        }
    }

    private static void goesBackInTheirOrder() {
        Chain.sentence("Promise 11: goesBack: s in their order, t for each: LONG or 0, which comes first");
        // From 0 to 8 it is LONG; 1 and 2 do not go back as they came.
        Chain c = longFromNoWeight(0, 9, 8, TOO_MANY);
        tellRound(c, 1, 2, 3);
        c.due(LONG, "row", 2, 0, 8, 0).dueRow(0, 1, 2, 1, 2).dueRow(1, 1, 2, 2, 1).refuse(LONG, "goesBack", 2);
        // From 1 to 9 it is LONG; 0 and 14 do not go back as they came.
        Chain d = longFromNoWeight(1, 2, 9, TOO_MANY);
        tellRound(d, 0, 14, 15);
        d.due(LONG, "row", 2, 1, 9, 0).dueRow(0, 1, 2, 0, 14).dueRow(1, 1, 2, 14, 0).due(0, "goesBack", 2);
        // From 1 to 0 it is LONG: that comes ahead of 0 and 14.
        Chain both = longFromNoWeight(1, 2, 0, TOO_MANY);
        tellRound(both, 0, 14, 15);
        both.due(LONG, "row", 2, 1, 0, 0).refuse(LONG, "goesBack", 2);
    }

    /** These three get a weight of 1, and ways between the first two by move 0, the last two by move 1. */
    private static void tellRound(Chain c, int... three) {
        for (int s : three) {
            c.due(0, "weight", s, 1);
        }
        for (int m = 0; m < 2; m++) {
            c.due(0, "chance", m, three[m], three[m + 1], 1).due(0, "chance", m, three[m + 1], three[m], 1);
        }
    }

    private static void reachOfItself() {
        Chain.sentence("Promise 12: reach: (s too)");
        Chain c = Chain.line(0, 0, 0).due(0, "move", TOLD, 0, 0);
        for (int s = 0; s < 3; s++) {
            c.due(1, "reach", 0, s);
        }
        // It never comes back to 0, nor to 1, and never stays there.
        c.due(0, "chance", 0, 0, 1, 1).due(0, "chance", 0, 1, 2, 1).due(0, "chance", 0, 2, 2, 1);
        c.due(3, "reach", 0, 0).due(2, "reach", 0, 1).due(1, "reach", 0, 2);
        c.due(1, "move", CYCLE, 0, 0).due(2, "reach", 1, 0).due(2, "reach", 1, 1).due(1, "reach", 1, 2);
    }

    private static void reachByARow() {
        Chain.sentence("Promise 12: reach: by a row of MOVES m, however long");
        for (int by : new int[] {1, 15, 3, 5, 2, 14, 4, 8}) {
            Chain c = new Chain().due(16, "model", 4, 4, 0, 0).due(0, "move", TOLD, 0, 0);
            for (int s = 0; s < 16; s++) {
                c.due(1, "weight", s, 0).due(0, "chance", 0, s, (s + by) % 16, 1);
            }
            c.due(1, "move", CYCLE, 0, 0).due(2, "move", MIXED, 1, 0);
            int all = by % 2 == 1 ? 16 : 16 / by;
            all = by == 14 ? 8 : all;
            for (int s = 0; s < 16; s++) {
                c.due(all, "reach", 0, s).due(all / 2, "reach", 1, s).due(all, "reach", 2, s);
            }
        }
    }

    private static void reachOfEachKind() {
        Chain.sentence("Promise 12: reach: there is a chance above 0 for each");
        for (int kind : new int[] {REDRAW, SLICE}) {
            Chain c = model(2, 3, 0, 0).due(0, "move", kind, 1, 0).due(3, "reach", 0, 1).due(3, "reach", 0, 4);
            c.due(1, "weight", 3, 0).due(2, "reach", 0, 4).due(2, "reach", 0, 5);
            c.due(kind == REDRAW ? 3 : 1, "reach", 0, 3).due(1, "weight", 5, 0).due(1, "reach", 0, 4);
            c.due(kind == REDRAW ? 2 : 1, "reach", 0, 3).due(1, "weight", 4, 0).due(1, "reach", 0, 3);
            c.due(3, "reach", 0, 2);
        }
        Chain step = model(2, 4, 0, 0).due(0, "move", STEP, 1, 0).due(4, "reach", 0, 5).due(1, "weight", 4, 0);
        step.due(3, "reach", 0, 5).due(4, "reach", 0, 4).due(1, "weight", 6, 0).due(1, "reach", 0, 5);
        step.due(3, "reach", 0, 6).due(4, "reach", 0, 0);
        Chain swap = model(2, 3, 2, 0).due(0, "move", SWAP, 0, 2).due(2, "reach", 0, 1).due(2, "reach", 0, 6);
        swap.due(1, "reach", 0, 0).due(1, "reach", 0, 7).due(1, "weight", 1, 0).due(1, "reach", 0, 6);
        swap.due(2, "reach", 0, 1);
        Chain told = Chain.line(1, 1, 0).due(0, "move", TOLD, 0, 0).due(0, "chance", 0, 0, 1, 1);
        told.due(1, "reach", 0, 0).due(0, "chance", 0, 1, 0, 1).due(2, "reach", 0, 0).due(0, "chance", 0, 1, 2, 1);
        told.due(2, "reach", 0, 1).due(0, "chance", 0, 2, 1, 1).due(2, "reach", 0, 1).due(3, "reach", 0, 2);
    }

    private static void reachOfMoves() {
        Chain.sentence("Promise 12: reach of 5 and 6, also where two lie in one another");
        Chain c = model(2, 2, 2, 2);
        for (int place = 0; place < 4; place++) {
            c.due(place, "move", REDRAW, place, 0);
        }
        for (int kind = MIXED; kind <= CYCLE; kind++) {
            int m = kind == MIXED ? 4 : 7;
            c.due(m, "move", kind, 0, 1).due(m + 1, "move", kind, 2, 3).due(m + 2, "move", kind, m, m + 1);
            c.due(4, "reach", m, 5).due(4, "reach", m + 1, 5).due(16, "reach", m + 2, 5);
        }
        Chain one = model(2, 3, 0, 0).due(0, "move", REDRAW, 1, 0).due(1, "move", TOLD, 0, 0);
        for (int kind = MIXED; kind <= CYCLE; kind++) {
            int m = kind == MIXED ? 2 : 6;
            one.due(m, "move", kind, 0, 1).due(m + 1, "move", kind, 1, 0).due(m + 2, "move", kind, m, 1);
            one.due(m + 3, "move", kind, 1, m + 1);
            for (int k = m; k < m + 4; k++) {
                one.due(3, "reach", k, 4).due(3, "reach", k, 0);
            }
        }
    }

    /** Twice the same between two states: it comes to the other one only if it may stay. */
    private static void reachOfWhatMayStay() {
        Chain.sentence("Promise 12: reach: of 6 those that some r leads on to, r being s where a may stay");
        int[][] cases = {{1, 1, 1, 1}, {7, 7, 1, 1}, {2, 1, 2, 2}, {1, 2, 2, 2}, {0, 0, 1, 1}, {0, 1, 2, 1},
            {1, 0, 1, 2}, {1000, 999, 2, 2}};
        for (int[] each : cases) {
            Chain c = new Chain().due(4, "model", 2, 2, 0, 0).due(0, "move", SWAP, 0, 1);
            c.due(1, "weight", 1, each[0]).due(1, "weight", 2, each[1]).due(1, "move", TOLD, 0, 0);
            c.due(0, "chance", 1, 1, 2, 1).due(0, "chance", 1, 2, 1, 1);
            Chain step = Chain.line(each[0], each[1]).due(0, "move", STEP, 0, 0).due(1, "move", CYCLE, 0, 0);
            step.due(each[2], "reach", 1, 0).due(each[3], "reach", 1, 1);
            for (int m = 0; m < 2; m++) {
                c.due(2 + m, "move", CYCLE, m, m).due(each[2], "reach", 2 + m, 1).due(each[3], "reach", 2 + m, 2);
            }
        }
        // It may stay as there is no way back from 2, or as it is told to stay.
        Chain c = Chain.line(1, 1, 1).due(0, "move", TOLD, 0, 0).due(1, "move", CYCLE, 0, 0);
        c.due(0, "chance", 0, 0, 1, 1).due(0, "chance", 0, 1, 0, 1).due(1, "reach", 1, 0);
        c.due(0, "chance", 0, 0, 2, 1).due(2, "reach", 1, 0).due(1, "chance", 0, 0, 2, 0).due(1, "reach", 1, 0);
        c.due(0, "chance", 0, 0, 0, 1).due(2, "reach", 1, 0);
    }

    private static void reachOfWhatStaysByZero() {
        Chain.sentence("Promise 12: reach: of 6 those that some r leads on to, r being s where a stays by a 0");
        int[][] cases = {{REDRAW, 0, 1}, {REDRAW, 5, 0}, {SLICE, 0, 1}, {SLICE, 5, 1}, {TOLD, 0, 1}, {TOLD, 5, 1}};
        for (int[] each : cases) {
            // From 0 the second move goes to 2, from 1 nowhere.
            Chain c = Chain.line(0, each[1], 0).due(0, "move", each[0], 0, 0).due(1, "move", TOLD, 0, 0);
            c.due(0, "chance", 1, 0, 2, 1).due(2, "move", CYCLE, 0, 1).due(2, "reach", 2, 0);
            c.due(each[2] == 1 ? 2 : each[1] > 0 ? 1 : 0, "run", 2, 0, 1, 3);
        }
    }

    private static void reachWithoutFractions() {
        Chain.sentence("Promise 12: reach: (Without any fraction: of 6 those that some r leads on to.)");
        Chain c = longHub().due(1, "move", CYCLE, 0, 0).due(2, "move", MIXED, 0, 0).due(3, "move", CYCLE, 1, 1);
        for (int m = 0; m < 4; m++) {
            c.refuse(LONG, "row", m, 0, 0, 0).due(8, "reach", m, 0).due(8, "reach", m, 7).due(1, "reach", m, 8);
        }
        // 0 goes to 1 or stays, by the first; by the second 1 goes to 2, and 0 to 3.
        Chain d = Chain.line(0, 0, 0, 0).due(0, "move", TOLD, 0, 0).due(1, "move", TOLD, 0, 0);
        d.due(0, "chance", 0, 0, 1, 1).due(0, "chance", 1, 1, 2, 1).due(2, "move", CYCLE, 0, 1);
        d.due(2, "reach", 2, 0).due(0, "chance", 1, 0, 3, 1).due(2, "reach", 2, 0);
        d.due(0, "chance", 0, 0, 0, 1).due(3, "reach", 2, 0);
    }

    private static void reachRefused() {
        Chain.sentence("Promise 12: reach: STATE; BAD.");
        Chain c = busy().refuseEach(BAD, 0, Chain.outside(0, 6), "reach", 0, 0);
        c.refuseEach(BAD, 1, Chain.outside(0, 11), "reach", 0, 0).refuse(BAD, "reach", MIN, MIN);
        for (int[] size : MODELS) {
            int states = statesOf(size);
            Chain d = model(size).refuse(BAD, "reach", 0, 0).due(0, "move", STEP, 0, 0);
            d.refuse(BAD, "reach", 0, states).refuse(BAD, "reach", 0, -1).due(size[0], "reach", 0, states - 1);
        }
    }

    // Promises 13 to 18

    private static void runOfNoneAndMost() {
        Chain.sentence("Promise 13: run: n (0 to 200) MOVES m from s: where it ends");
        Chain c = ring();
        for (int n : new int[] {0, 1, 5, 6, 199, 200}) {
            for (int s = 0; s < 6; s++) {
                c.due((s + n) % 6, "run", 0, s, n, 77).due(n, "count", 3).due(s, "trace", 0);
                c.due((s + n) % 6, "trace", n).due(0, "refused").due(BAD, "trace", n + 1);
            }
        }
        c.due(1, "move", CYCLE, 0, 0).due(4, "run", 1, 0, 200, 77).due(200, "count", 3).due(2, "trace", 1);
    }

    /** Goes round through six values, always. */
    private static Chain ring() {
        return route(0, 1, 2, 3, 4, 5, 0);
    }

    /** No value of the six has a weight, and the one move goes this way, always. */
    private static Chain route(int... way) {
        Chain c = Chain.line(0, 0, 0, 0, 0, 0).due(0, "move", TOLD, 0, 0);
        for (int i = 0; i + 1 < way.length; i++) {
            c.due(0, "chance", 0, way[i], way[i + 1], 1);
        }
        return c;
    }

    private static void runRefused() {
        Chain.sentence("Promise 13: run: STATE; BAD.");
        Chain c = busy();
        c.refuseEach(BAD, 0, Chain.outside(0, 6), "run", 6, 0, 5, 3);
        c.refuseEach(BAD, 1, Chain.outside(0, 11), "run", 6, 0, 5, 3);
        c.refuseEach(BAD, 2, Chain.outside(0, 200), "run", 6, 0, 5, 3);
        c.refuse(BAD, "run", 7, 12, 201, Long.MIN_VALUE).refuse(BAD, "run", 0, 0, -1, Long.MAX_VALUE);
        c.due(9, "count", 3).due(1, "trace", 0);
        for (int[] size : MODELS) {
            int states = statesOf(size);
            Chain d = model(size).refuse(BAD, "run", 0, 0, 0, 0).refuse(STATE, "trace", 0).due(-1, "count", 3);
            d.due(0, "move", TOLD, 0, 0).refuse(BAD, "run", 0, states, 0, 0).refuse(STATE, "refused");
            d.due(states - 1, "run", 0, states - 1, 3, 0).due(3, "count", 3);
        }
    }

    private static void stateAheadOfBadWithoutRun() {
        Chain.sentence("Promises 14 to 17: STATE: no RUN, ahead of BAD");
        Chain c = model(2, 3, 0, 0).due(0, "move", STEP, 1, 0);
        for (long v : ANY) {
            c.refuse(STATE, "trace", v).refuse(STATE, "visits", v).refuse(STATE, "together", v, 0);
            c.refuse(STATE, "together", 0, v);
        }
        c.refuse(STATE, "refused").due(-1, "count", 3).due(0, "run", 0, 0, 0, 0);
        c.due(0, "trace", 0).due(1, "visits", 0).due(0, "refused").due(0, "together", 0, 0).due(0, "count", 3);
        c.refuse(BAD, "trace", 1).refuse(BAD, "visits", 6).refuse(BAD, "together", 2, 0);
        c.refuse(BAD, "together", 0, 1).due(6, "model", 2, 3, 0, 0).refuse(STATE, "trace", 0);
        c.refuse(STATE, "trace", -1).refuse(STATE, "visits", 6).refuse(STATE, "together", 2, 1);
    }

    private static void traceOfLatest() {
        Chain.sentence("Promise 14: trace: the latest RUN behind i MOVES (0: at first). STATE: no RUN; BAD.");
        Chain c = ring().due(2, "run", 0, 4, 10, 0).refuseEach(BAD, 0, Chain.outside(0, 10), "trace", 0);
        for (int i = 0; i <= 10; i++) {
            c.due((4 + i) % 6, "trace", i);
        }
        c.due(5, "run", 0, 3, 200, 0).due(3, "trace", 0).due(5, "trace", 200).due(4, "trace", 199);
        c.refuseEach(BAD, 0, Chain.outside(0, 200), "trace", 0);
        c.due(1, "run", 0, 1, 0, 0).due(1, "trace", 0).refuseEach(BAD, 0, Chain.outside(0, 0), "trace", 0);
        c.refuse(BAD, "trace", 10).refuse(BAD, "trace", 200).refuse(BAD, "run", 0, 6, 5, 0).due(1, "trace", 0);
    }

    private static void visitsAtFirst() {
        Chain.sentence("Promise 15: visits: how often it was in a STATE (at first, too). STATE; BAD.");
        Chain c = ring().due(3, "run", 0, 3, 0, 0).due(1, "visits", 3).due(0, "visits", 2).due(0, "visits", 4);
        c.due(4, "run", 0, 3, 1, 0).due(1, "visits", 3).due(1, "visits", 4).due(0, "visits", 5);
        c.due(3, "run", 0, 3, 6, 0).due(2, "visits", 3).due(1, "visits", 2);
        c.due(2, "run", 0, 0, 200, 0).due(34, "visits", 0).due(34, "visits", 2).due(33, "visits", 3);
        c.due(33, "visits", 5).refuseEach(BAD, 0, Chain.outside(0, 5), "visits", 0);
        Chain still = model(2, 2, 2, 2).due(0, "move", TOLD, 0, 0).due(15, "run", 0, 15, 200, 0);
        still.due(201, "visits", 15).due(0, "visits", 0).refuseEach(BAD, 0, Chain.outside(0, 15), "visits", 0);
    }

    private static void refusedOfLatest() {
        Chain.sentence("Promise 16: refused: REFUSED of the latest RUN. STATE.");
        Chain c = Chain.line(1, 0).due(0, "move", STEP, 0, 0).refuse(STATE, "refused");
        c.due(0, "run", 0, 0, 0, 5).due(0, "refused").due(0, "run", 0, 0, 200, 5).due(200, "refused");
        c.due(200, "refused").refuse(BAD, "run", 0, 0, 201, 5).due(200, "refused");
        c.due(0, "run", 0, 0, 3, 5).due(3, "refused").due(0, "run", 0, 1, 1, 5).due(0, "refused");
        c.due(0, "run", 0, 1, 2, 5).due(1, "refused").due(2, "model", 2, 0, 0, 0).refuse(STATE, "refused");
    }

    private static void togetherWhereBothAre() {
        Chain.sentence("Promise 17: together: for all i for which both are there, n being how many these are");
        Chain c = route(0, 5, 0).due(0, "run", 0, 0, 200, 0);
        // 101 times 0 and 100 times 5: lag by lag the pairs get fewer.
        c.due(201 * 2500 - 500 * 500, "together", 0, 0).due(-500 * 500, "together", 0, 1);
        c.due(199 * 99 * 25 - 495 * 495, "together", 0, 2).due(-495 * 495, "together", 0, 3);
        c.due(-5 * 5, "together", 0, 199).due(0, "together", 0, 200);
        c.due(3 * 25 - 25, "together", 0, 198).due(-10 * 10, "together", 0, 197);
        Chain d = route(0, 1, 5, 2).due(2, "run", 0, 0, 3, 0);
        d.due(4 * 30 - 8 * 8, "together", 0, 0).due(3 * 15 - 6 * 8, "together", 0, 1);
        d.due(2 * 2 - 7, "together", 0, 2).due(0, "together", 0, 3).refuse(BAD, "together", 0, 4);
        Chain plane = model(2, 3, 0, 0).due(0, "move", TOLD, 0, 0);
        for (int s = 0; s < 6; s++) {
            plane.due(1, "weight", s, 0).due(0, "chance", 0, s, (s + 1) % 6, 1);
        }
        // Place 0: 0, 0, 0, 1, 1; place 1: 0, 1, 2, 0, 1.
        plane.due(4, "run", 0, 0, 4, 0).due(5 * 2 - 4, "together", 0, 0).due(4 - 2, "together", 0, 1);
        plane.due(5 * 6 - 16, "together", 1, 0).due(4 * 2 - 3 * 4, "together", 1, 1).due(0, "together", 1, 4);
    }

    private static void togetherIsOneOfTheNumbers() {
        Chain.sentence("Promise 17: together: (it may be one of these numbers, too)");
        // Of three values with lag 1 it is the first difference times the second.
        int[][] ways = {{0, 1, 0}, {1, 2, 0}, {2, 3, 0}, {0, 2, 0}, {4, 5, 0}};
        for (int i = 0; i < ways.length; i++) {
            Chain c = route(ways[i]).due(0, "run", 0, ways[i][0], 2, 9).due(-1 - i, "together", 0, 1);
            c.refuse(BAD, "together", 0, 3).due(-1 - i, "together", 0, 1);
        }
    }

    private static void togetherRefused() {
        Chain.sentence("Promise 17: together: STATE; BAD: no such PLACE, lag is not 0 to the RUN's n");
        Chain c = busy();
        c.refuseEach(BAD, 0, Chain.outside(0, 2), "together", 0, 0);
        c.refuseEach(BAD, 1, Chain.outside(0, 9), "together", 0, 0).refuse(BAD, "together", 3, 10);
        c.due(0, "together", 2, 9).due(0, "together", 0, 9);
        for (int[] size : MODELS) {
            int places = placesOf(size);
            Chain d = model(size).due(0, "move", TOLD, 0, 0).due(1, "run", 0, 1, 200, 4);
            d.due(0, "together", places - 1, 200).refuse(BAD, "together", places, 0);
            d.refuse(BAD, "together", -1, 0).refuse(BAD, "together", 0, 201).refuse(BAD, "together", 0, -1);
            d.due(1, "run", 0, 1, 0, 4).due(0, "together", 0, 0).refuse(BAD, "together", 0, 1);
        }
    }

    private static void countOfAll() {
        Chain.sentence("Promise 18: count: 3 how many MOVES the RUN has (-1: there is none). BAD.");
        new Chain().refuseEach(BAD, 0, Chain.outside(0, 3), "count", 0).due(-1, "count", 3);
        Chain c = busy().refuseEach(BAD, 0, Chain.outside(0, 3), "count", 0);
        c.due(3, "count", 0).due(12, "count", 1).due(7, "count", 2).due(9, "count", 3);
        for (int[] size : MODELS) {
            Chain d = model(size).due(placesOf(size), "count", 0).due(statesOf(size), "count", 1);
            d.due(0, "count", 2).due(-1, "count", 3).due(0, "move", TOLD, 0, 0).due(-1, "count", 3);
            d.due(0, "run", 0, 0, 0, 0).due(0, "count", 3).due(0, "run", 0, 0, 200, 0).due(200, "count", 3);
            d.due(1, "move", TOLD, 0, 0).due(2, "count", 2).due(200, "count", 3);
        }
    }

    private static void mostCalls() {
        Chain.sentence("An object is used for at most 512 calls");
        Chain c = new Chain().due(2, "model", 2, 0, 0, 0).due(0, "move", REDRAW, 0, 0).due(1, "move", CYCLE, 0, 0);
        for (int w = 2; c.made() < Chain.MOST_CALLS - 2; w++) {
            c.due(w - 1, "weight", 0, w).due(w + 1, "row", 1, 1, 0, 1).due(w % 2, "run", 0, w % 2, 0, w);
        }
        Chain.must(c.made() == 510, "the test's own calls, " + c.made());
        c.due(1, "keeps", 1).due(1, "goesBack", 1);
        Chain models = new Chain();
        for (int i = 0; i < 128; i++) {
            int size = 2 + i % 5;
            models.due(size, "model", size, 0, 0, 0).due(0, "move", i % 2 == 0 ? REDRAW : TOLD, 0, 0);
            models.due(i % 2 == 0 ? size : 1, "reach", 0, 0).due(i % 2 == 0 ? size : 1, "row", 0, 0, 0, 1);
        }
        Chain runs = ring();
        for (int i = runs.made(); i < Chain.MOST_CALLS; i++) {
            runs.due((i % 6 + i % 201) % 6, "run", 0, i % 6, i % 201, i);
        }
        Chain.must(runs.made() == 512 && models.made() == 512, "the test's own calls");
    }

    private static void objectsAlone() {
        Chain.sentence("An object's MODEL, MOVES, RUN are its own");
        Chain one = busy();
        Chain other = new Chain().refuse(STATE, "refused").due(0, "count", 1);
        other.due(2, "model", 2, 0, 0, 0).due(0, "move", TOLD, 0, 0).due(0, "chance", 0, 0, 1, 6);
        other.due(1, "weight", 0, 900).due(0, "run", 0, 0, 0, 1);
        one.due(12, "count", 1).due(7, "count", 2).due(9, "count", 3).due(2, "weight", 0, 2);
        one.due(4, "chance", 3, 0, 7, 4).due(1, "trace", 0).dueRow(5, 14, 0, 0, 2);
    }
}
