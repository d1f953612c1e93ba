import java.math.BigInteger;

/** The boundary cases of a RUN: a test for each sentence, with seeds made for the draws that it is about. */
public final class ChainMovesDraws {
    private static final int BAD = -1;
    private static final int REDRAW = 0, STEP = 1, SWAP = 2, TOLD = 3, SLICE = 4, MIXED = 5, CYCLE = 6;
    private static final long FACTOR = 25214903917L;
    private static final long LOW_BITS = (1L << 48) - 1;

    public static void main(String[] args) {
        modulo48();
        cutOff();
        moduloN();
        lowestBits();
        eachRunAnew();
        redraw();
        step();
        accepted();
        acceptedWithoutDraw();
        toldFirst();
        toldTaken();
        toldAlwaysOrNever();
        slice();
        mixed();
        cycle();
        staysWithoutDraw();
        refusedOfEach();
        refusedInOthers();
        Chain.end();
    }

    private static long next(long x) {
        return (x * FACTOR + 11) & LOW_BITS;
    }

    /** The number behind which x comes. */
    private static long before(long x) {
        long inverse = FACTOR;
        for (int i = 0; i < 6; i++) {
            inverse *= 2 - FACTOR * inverse;
        }
        return ((x - 11) * inverse) & LOW_BITS;
    }

    /** A seed whose first draws, of n, are d: told as n, d, n, d and so on; each time another one. */
    private static long seedFor(long... drawn) {
        int last = drawn.length - 2;
        seeds++;
        // Far from 0, where a draw of another n would be the same.
        long first = drawn[last + 1] + drawn[last] * (seeds * 7919 % (1 + (1L << 30) / drawn[last]));
        for (long q = first; q < 1L << 31; q += drawn[last]) {
            for (long i = 0; i < 1L << 17; i++) {
                long x = q << 17 | (i + seeds * 4099) % (1L << 17);
                if (drawsAhead(x, drawn)) {
                    return before(numberAhead(x, last / 2));
                }
            }
        }
        throw new IllegalStateException("no seed draws so");
    }

    private static long seeds = 0;

    private static long numberAhead(long x, int draws) {
        long ahead = x;
        for (int i = 0; i < draws; i++) {
            ahead = before(ahead);
        }
        return ahead;
    }

    /** Whether the draws ahead of the last, whose number is x, are as told. */
    private static boolean drawsAhead(long x, long... drawn) {
        long ahead = x;
        for (int i = drawn.length - 4; i >= 0; i -= 2) {
            ahead = before(ahead);
            if ((ahead >> 17) % drawn[i] != drawn[i + 1]) {
                return false;
            }
        }
        return true;
    }

    private static void modulo48() {
        Chain.sentence("A RUN: x = (x * 25214903917 + 11) modulo 2^48 for each DRAW");
        BigInteger modulus = BigInteger.ONE.shiftLeft(48);
        for (long seed : new long[] {0, 1, -1, 1L << 47, LOW_BITS, LOW_BITS - 1, Long.MIN_VALUE, Long.MAX_VALUE}) {
            Chain c = Chain.line(1, 1, 1, 1, 1, 1).due(0, "move", REDRAW, 0, 0);
            c.ask("run", 0, 0, 200, seed);
            BigInteger x = BigInteger.valueOf(seed).mod(modulus);
            for (int i = 1; i <= 200; i++) {
                x = x.multiply(BigInteger.valueOf(FACTOR)).add(BigInteger.valueOf(11)).mod(modulus);
                c.due(x.shiftRight(17).mod(BigInteger.valueOf(6)).longValueExact(), "trace", i);
            }
        }
    }

    private static void cutOff() {
        Chain.sentence("A RUN: a DRAW is (x / 2^17, cut off) modulo n");
        Chain c = Chain.line(1, 1, 1, 1, 1, 1).due(0, "move", REDRAW, 0, 0);
        c.due(0, "run", 0, 5, 1, before(0)).due(0, "run", 0, 5, 1, before((1L << 17) - 1));
        c.due(1, "run", 0, 5, 1, before(1L << 17)).due(1, "run", 0, 5, 1, before((2L << 17) - 1));
        c.due(2, "run", 0, 5, 1, before(2L << 17));
        // At the most it is 2^31 - 1, which is 1 modulo 6; 2^30 is 4.
        c.due(1, "run", 0, 5, 1, before(LOW_BITS)).due(4, "run", 0, 5, 1, before(1L << 47));
        c.due(3, "run", 0, 5, 1, before((1L << 47) - 1));
    }

    private static void moduloN() {
        Chain.sentence("A RUN: a DRAW of n is from 0 to n - 1");
        for (int n = 2; n <= 6; n++) {
            Chain c = new Chain().due(n, "model", n, 0, 0, 0).due(0, "move", REDRAW, 0, 0);
            c.due(n - 1, "run", 0, 0, 1, before((long) (n - 1) << 17));
            c.due(0, "run", 0, 1, 1, before((long) n << 17));
            c.due(1, "run", 0, 0, 1, before((long) (n + 1) << 17));
            c.due(Integer.MAX_VALUE % n, "run", 0, 0, 1, before(LOW_BITS));
        }
    }

    private static void lowestBits() {
        Chain.sentence("A RUN: x is the seed's lowest 48 bits at first");
        Chain c = Chain.line(1, 1, 1).due(0, "move", REDRAW, 0, 0);
        // From 0 the first number is 11, from 2^47 it is 2^47 + 11: 0 and 2^30, which is 1 modulo 3.
        c.due(0, "run", 0, 1, 1, 0).due(1, "run", 0, 0, 1, 1L << 47);
        c.due(0, "run", 0, 1, 1, 1L << 48).due(0, "run", 0, 1, 1, Long.MIN_VALUE);
        c.due(0, "run", 0, 1, 1, -1L << 48).due(1, "run", 0, 0, 1, 3L << 47).due(1, "run", 0, 0, 1, -1L << 47);
        Chain d = Chain.line(1, 1, 1, 1, 1, 1).due(0, "move", REDRAW, 0, 0);
        int low = (int) d.ask("run", 0, 0, 40, 987654321L);
        d.due(low, "run", 0, 0, 40, 987654321L + (1L << 48)).due(low, "run", 0, 0, 40, 987654321L - (1L << 48));
        int most = (int) d.ask("run", 0, 0, 41, LOW_BITS);
        d.due(most, "run", 0, 0, 41, -1).due(most, "run", 0, 0, 41, Long.MAX_VALUE);
    }

    private static void eachRunAnew() {
        Chain.sentence("A RUN: from its seed, whatever was run ahead of it");
        Chain c = Chain.line(1, 1, 1, 1, 1, 1).due(0, "move", REDRAW, 0, 0);
        c.due(3, "run", 0, 0, 1, seedFor(6, 3)).due(5, "run", 0, 0, 1, seedFor(6, 5));
        c.due(3, "run", 0, 0, 1, seedFor(6, 3)).due(0, "run", 0, 0, 0, 77).due(3, "run", 0, 0, 1, seedFor(6, 3));
        c.due(BAD, "run", 0, 0, 201, 77).due(5, "run", 0, 0, 1, seedFor(6, 5));
    }

    private static void redraw() {
        Chain.sentence("REDRAW: the first t of the LINE with which the sum of the WEIGHTS up to it is above d");
        Chain c = Chain.line(3, 0, 5, 2).due(0, "move", REDRAW, 0, 0);
        int[] want = {0, 0, 0, 2, 2, 2, 2, 2, 3, 3};
        for (int d = 0; d < 10; d++) {
            c.due(want[d], "run", 0, 1, 1, seedFor(10, d));
        }
        Chain.line(0, 4).due(0, "move", REDRAW, 0, 0).due(1, "run", 0, 0, 1, seedFor(4, 0));
        Chain.line(4, 0).due(0, "move", REDRAW, 0, 0).due(0, "run", 0, 1, 1, seedFor(4, 3));
        Chain most = Chain.line(1000, 1000, 1000, 1000, 1000, 1000).due(0, "move", REDRAW, 0, 0);
        most.due(0, "run", 0, 3, 1, seedFor(6000, 999)).due(1, "run", 0, 3, 1, seedFor(6000, 1000));
        most.due(4, "run", 0, 3, 1, seedFor(6000, 4999)).due(5, "run", 0, 3, 1, seedFor(6000, 5000));
        most.due(5, "run", 0, 3, 1, seedFor(6000, 5999)).due(0, "run", 0, 3, 1, seedFor(6000, 0));
        Chain plane = new Chain().due(15, "model", 3, 5, 0, 0).due(0, "move", REDRAW, 0, 0);
        plane.due(4, "run", 0, 9, 1, seedFor(3, 0)).due(14, "run", 0, 9, 1, seedFor(3, 2));
    }

    private static void step() {
        Chain.sentence("STEP: a DRAW of 2: 0 the next VALUE, 1 the one before");
        for (int size = 2; size <= 6; size++) {
            Chain c = new Chain().due(size, "model", size, 0, 0, 0).due(0, "move", STEP, 0, 0);
            c.due(1, "run", 0, 0, 1, seedFor(2, 0)).due(size - 1, "run", 0, 0, 1, seedFor(2, 1));
            c.due(0, "run", 0, size - 1, 1, seedFor(2, 0)).due(size - 2, "run", 0, size - 1, 1, seedFor(2, 1));
        }
        Chain plane = new Chain().due(15, "model", 3, 5, 0, 0).due(0, "move", STEP, 0, 0);
        plane.due(4, "run", 0, 14, 1, seedFor(2, 0)).due(14, "run", 0, 4, 1, seedFor(2, 1));
        plane.due(9, "run", 0, 14, 1, seedFor(2, 1)).due(9, "run", 0, 4, 1, seedFor(2, 0));
    }

    private static void accepted() {
        Chain.sentence("ACCEPTED: else if a DRAW of w(s) is below w(t)");
        int[][] pairs = {{5, 3}, {1000, 999}, {1000, 1}, {2, 1}};
        for (int[] w : pairs) {
            Chain c = Chain.line(w[0], w[1]).due(0, "move", STEP, 0, 0);
            for (int way = 0; way < 2; way++) {
                c.due(1, "run", 0, 0, 1, seedFor(2, way, w[0], 0)).due(0, "refused");
                c.due(1, "run", 0, 0, 1, seedFor(2, way, w[0], w[1] - 1)).due(0, "refused");
                c.due(0, "run", 0, 0, 1, seedFor(2, way, w[0], w[1])).due(1, "refused");
                c.due(0, "run", 0, 0, 1, seedFor(2, way, w[0], w[0] - 1)).due(1, "refused");
            }
            Chain swap = new Chain().due(4, "model", 2, 2, 0, 0).due(0, "move", SWAP, 0, 1);
            swap.due(1, "weight", 1, w[0]).due(1, "weight", 2, w[1]);
            swap.due(2, "run", 0, 1, 1, seedFor(w[0], w[1] - 1)).due(0, "refused");
            swap.due(1, "run", 0, 1, 1, seedFor(w[0], w[1])).due(1, "refused");
        }
        Chain.line(1000, 0).due(0, "move", STEP, 0, 0).due(0, "run", 0, 0, 1, seedFor(2, 0, 1000, 0)).due(1, "refused");
        Chain.line(1, 0).due(0, "move", STEP, 0, 0).due(0, "run", 0, 0, 200, 3).due(200, "refused");
    }

    /**
     * Places of 2, 2 and 3 values; these weights for the first two places' values 00, 01, 10, 11. Move 0 is
     * told to draw one of 3 for the last place, and takes it always: so it shows which number is the next.
     */
    private static Chain witness(int... weights) {
        Chain c = new Chain().due(12, "model", 2, 2, 3, 0).due(0, "move", TOLD, 0, 0);
        for (int s = 0; s < 12; s++) {
            c.due(1, "weight", s, weights[s / 3]);
            for (int v = 0; v < 3; v++) {
                c.due(0, "chance", 0, s, s / 3 * 3 + v, 1);
            }
        }
        return c;
    }

    /** From s a cycle of move 1, or m, and then the witness: move 1 makes as many draws as told. */
    private static void dueDraws(int want, Chain c, int m, int s) {
        int cycle = (int) c.ask("move", CYCLE, m, 0);
        boolean[] can = {true, true, true, true, true, true};
        for (int i = 1; i <= 14; i++) {
            long seed = i * 1234567890123L;
            long x = seed & LOW_BITS;
            int shown = (int) c.ask("run", cycle, s, 1, seed) % 3;
            for (int draws = 0; draws < can.length; draws++) {
                x = next(x);
                can[draws] &= (x >> 17) % 3 == shown;
            }
        }
        for (int draws = 0; draws < can.length; draws++) {
            Chain.must(can[draws] == (draws == want), "from " + s + " by move " + m + ": " + draws
                    + " draws" + (can[draws] ? "" : " not") + ", due are " + want);
        }
    }

    private static void acceptedWithoutDraw() {
        Chain.sentence("ACCEPTED: if w(t) is not below w(s) (without a DRAW)");
        int[][] steps = {{5, 5, 1}, {5, 6, 1}, {1, 1000, 1}, {1000, 1000, 1}, {0, 0, 1}, {0, 7, 1},
            {5, 4, 2}, {5, 0, 2}, {1, 0, 2}, {1000, 999, 2}};
        for (int[] each : steps) {
            Chain c = witness(each[0], 1, each[1], 1).due(1, "move", STEP, 0, 0);
            dueDraws(each[2], c, 1, 0);
            Chain swap = witness(1, each[0], each[1], 1).due(1, "move", SWAP, 0, 1);
            dueDraws(each[2] - 1, swap, 1, 3);
        }
        dueDraws(0, witness(5, 1, 1, 1).due(1, "move", SWAP, 0, 1), 1, 0);
    }

    private static void toldFirst() {
        Chain.sentence("TOLD: a DRAW of C(s): the first t with which the sum of c is above it");
        Chain c = Chain.line(0, 0, 0, 0, 0, 0).due(0, "move", TOLD, 0, 0);
        c.due(0, "chance", 0, 0, 1, 2).due(0, "chance", 0, 0, 3, 3).due(0, "chance", 0, 0, 4, 1);
        int[] want = {1, 1, 3, 3, 3, 4};
        for (int d = 0; d < 6; d++) {
            c.due(want[d], "run", 0, 0, 1, seedFor(6, d)).due(0, "refused");
        }
        Chain most = new Chain().due(16, "model", 4, 4, 0, 0).due(0, "move", TOLD, 0, 0);
        for (int t = 0; t < 16; t++) {
            most.due(0, "chance", 0, 7, t, 100).due(t == 7 ? 100 : 0, "chance", 0, t, 7, 100);
        }
        // From 7 x is above y, as its sum is 1600 and the others' 100.
        for (int t = 0; t < 16; t++) {
            most.due(t, "run", 0, 7, 1, seedFor(1600, 100 * t));
            most.due(t, "run", 0, 7, 1, seedFor(1600, 100 * t + 99));
        }
    }

    private static void toldTaken() {
        Chain.sentence("TOLD: if x is not below y (without a DRAW), else if a DRAW of y is below x");
        Chain c = Chain.line(7, 3).due(0, "move", TOLD, 0, 0).due(0, "chance", 0, 0, 1, 1).due(0, "chance", 0, 1, 0, 1);
        c.due(1, "run", 0, 0, 1, seedFor(1, 0, 7, 0)).due(1, "run", 0, 0, 1, seedFor(1, 0, 7, 2)).due(0, "refused");
        c.due(0, "run", 0, 0, 1, seedFor(1, 0, 7, 3)).due(1, "refused");
        c.due(0, "run", 0, 0, 1, seedFor(1, 0, 7, 6)).due(1, "refused");
        // x and y are 1, the least that is taken.
        Chain least = Chain.line(1, 1).due(0, "move", TOLD, 0, 0);
        least.due(0, "chance", 0, 0, 1, 1).due(0, "chance", 0, 1, 0, 1);
        least.due(1, "run", 0, 0, 199, 3).due(0, "refused").due(100, "visits", 1);
        // x is 999 * 100 * 100, y 1000 * 100 * 200.
        Chain most = Chain.line(1000, 999).due(0, "move", TOLD, 0, 0).due(0, "chance", 0, 0, 1, 100);
        most.due(0, "chance", 0, 1, 0, 100).due(0, "chance", 0, 1, 1, 100);
        most.due(1, "run", 0, 0, 1, seedFor(100, 7, 20000000, 9989999)).due(0, "refused");
        most.due(0, "run", 0, 0, 1, seedFor(100, 7, 20000000, 9990000)).due(1, "refused");
        int[][] draws = {{5, 5, 1}, {5, 6, 1}, {5, 4, 2}, {1000, 999, 2}, {999, 1000, 1}, {1, 1, 1}};
        for (int[] each : draws) {
            Chain w = witness(each[0], 1, each[1], 1).due(1, "move", TOLD, 0, 0);
            w.due(0, "chance", 1, 0, 6, 1).due(0, "chance", 1, 6, 0, 1);
            dueDraws(each[2], w, 1, 0);
        }
    }

    private static void toldAlwaysOrNever() {
        Chain.sentence("TOLD: then, but where it is taken always or never");
        for (int there : new int[] {0, 1, 1000}) {
            Chain always = witness(0, 1, there, 1).due(1, "move", TOLD, 0, 0).due(0, "chance", 1, 0, 6, 1);
            dueDraws(1, always, 1, 0);
            always.due(6, "run", 1, 0, 1, 5).due(0, "refused").due(0, "chance", 1, 6, 0, 3);
            dueDraws(1, always, 1, 0);
        }
        // No weight there; no way back; no chances there at all, so that y is 0, too.
        Chain never = witness(5, 1, 0, 7).due(1, "move", TOLD, 0, 0);
        never.due(0, "chance", 1, 0, 6, 1).due(0, "chance", 1, 6, 0, 1);
        dueDraws(1, never, 1, 0);
        never.due(0, "run", 1, 0, 9, 5).due(9, "refused");
        never.due(1, "chance", 1, 0, 6, 0).due(0, "chance", 1, 0, 9, 1).due(0, "chance", 1, 9, 10, 1);
        dueDraws(1, never, 1, 0);
        never.due(0, "run", 1, 0, 9, 5).due(9, "refused").due(1, "chance", 1, 9, 10, 0);
        dueDraws(1, never, 1, 0);
        never.due(0, "run", 1, 0, 9, 5).due(9, "refused");
    }

    private static void slice() {
        Chain.sentence("SLICE: LEVEL is 1 more than a DRAW of w(s); then a DRAW of how many there are");
        Chain c = Chain.line(5, 3).due(0, "move", SLICE, 0, 0);
        c.due(0, "run", 0, 0, 1, seedFor(5, 2, 2, 0)).due(1, "run", 0, 0, 1, seedFor(5, 2, 2, 1));
        c.due(1, "run", 0, 0, 1, seedFor(5, 0, 2, 1)).due(0, "run", 0, 0, 1, seedFor(5, 3, 2, 1));
        c.due(0, "run", 0, 0, 1, seedFor(5, 4, 2, 1)).due(0, "run", 0, 1, 1, seedFor(3, 2, 2, 0));
        c.due(1, "run", 0, 1, 1, seedFor(3, 2, 2, 1));
        Chain gaps = Chain.line(4, 1, 3, 4).due(0, "move", SLICE, 0, 0);
        int[] third = {0, 2, 3};
        for (int i = 0; i < 3; i++) {
            gaps.due(third[i], "run", 0, 0, 1, seedFor(4, 2, 3, i)).due(third[i], "run", 0, 0, 1, seedFor(4, 1, 3, i));
        }
        gaps.due(0, "run", 0, 0, 1, seedFor(4, 3, 2, 0)).due(3, "run", 0, 0, 1, seedFor(4, 3, 2, 1));
        gaps.due(1, "run", 0, 0, 1, seedFor(4, 0, 4, 1)).due(3, "run", 0, 0, 1, seedFor(4, 0, 4, 3));
        Chain most = Chain.line(1000, 999).due(0, "move", SLICE, 0, 0);
        most.due(1, "run", 0, 0, 1, seedFor(1000, 998, 2, 1)).due(0, "run", 0, 0, 1, seedFor(1000, 999, 2, 1));
        int[][] alone = {{1, 0}, {1, 1}, {2, 0}, {1000, 0}, {1000, 1000}};
        for (int[] each : alone) {
            dueDraws(2, witness(each[0], 1, each[1], 1).due(1, "move", SLICE, 0, 0), 1, 0);
        }
    }

    private static void mixed() {
        Chain.sentence("MIXED: a DRAW of p + q below p: a");
        int[][] odds = {{1, 1}, {100, 100}, {1, 100}, {100, 1}, {2, 4}, {99, 100}};
        for (int[] each : odds) {
            Chain c = Chain.line(0, 0, 0).due(0, "move", TOLD, 0, 0).due(1, "move", TOLD, 0, 0);
            c.due(2, "move", MIXED, 0, 1);
            c.due(0, "chance", 0, 0, 1, 1).due(0, "chance", 1, 0, 2, 1).due(1, "odds", 2, each[0], each[1]);
            int all = each[0] + each[1];
            c.due(1, "run", 2, 0, 1, seedFor(all, 0)).due(1, "run", 2, 0, 1, seedFor(all, each[0] - 1));
            c.due(2, "run", 2, 0, 1, seedFor(all, each[0])).due(2, "run", 2, 0, 1, seedFor(all, all - 1));
        }
        Chain w = witness(0, 1, 0, 1).due(1, "move", REDRAW, 0, 0).due(2, "move", STEP, 0, 0);
        w.due(3, "move", MIXED, 1, 1).due(4, "move", MIXED, 2, 2);
        dueDraws(1, w, 3, 0);
        dueDraws(2, w, 4, 0);
    }

    private static void cycle() {
        Chain.sentence("6 CYCLE a b: MOVE a, then MOVE b (in a RUN)");
        Chain c = Chain.line(0, 0, 0, 0).due(0, "move", TOLD, 0, 0).due(1, "move", TOLD, 0, 0);
        c.due(0, "chance", 0, 0, 1, 1).due(0, "chance", 1, 1, 2, 1).due(0, "chance", 1, 0, 3, 1);
        c.due(2, "move", CYCLE, 0, 1).due(3, "move", CYCLE, 1, 0).due(4, "move", CYCLE, 2, 2);
        c.due(2, "run", 2, 0, 1, 9).due(3, "run", 3, 0, 1, 9).due(2, "run", 4, 0, 1, 9).due(1, "count", 3);
        Chain w = witness(0, 1, 0, 1).due(1, "move", STEP, 0, 0).due(2, "move", CYCLE, 1, 1);
        dueDraws(2, w, 2, 0);
    }

    private static void staysWithoutDraw() {
        Chain.sentence("Where it stays by a 0 told above there is no DRAW.");
        dueDraws(0, witness(0, 1, 0, 1).due(1, "move", REDRAW, 0, 0), 1, 0);
        dueDraws(1, witness(0, 1, 1, 1).due(1, "move", REDRAW, 0, 0), 1, 0);
        dueDraws(1, witness(3, 1, 0, 1).due(1, "move", REDRAW, 0, 0), 1, 0);
        dueDraws(0, witness(0, 1, 9, 1).due(1, "move", SLICE, 0, 0), 1, 0);
        for (int weight : new int[] {0, 1, 1000}) {
            Chain c = witness(weight, 1, 1, 1).due(1, "move", TOLD, 0, 0).due(0, "chance", 1, 6, 0, 1);
            dueDraws(0, c, 1, 0);
            c.due(0, "chance", 1, 0, 0, 1);
            dueDraws(1, c, 1, 0);
        }
        Chain both = witness(0, 1, 0, 1).due(1, "move", REDRAW, 0, 0).due(2, "move", SLICE, 0, 0);
        both.due(3, "move", CYCLE, 1, 2);
        dueDraws(0, both, 3, 0);
    }

    /** Only state 1 of these four has a weight: nothing else is ever taken from there. */
    private static Chain lonely() {
        Chain c = new Chain().due(4, "model", 2, 2, 0, 0);
        c.due(1, "weight", 0, 0).due(1, "weight", 2, 0).due(1, "weight", 3, 0);
        c.due(0, "move", STEP, 0, 0).due(1, "move", SWAP, 0, 1).due(2, "move", TOLD, 0, 0);
        return c.due(0, "chance", 2, 1, 3, 5).due(0, "chance", 2, 3, 1, 5);
    }

    private static void refusedOfEach() {
        Chain.sentence("REFUSED counts each time that STEP, SWAP, TOLD did not take what they proposed");
        Chain c = lonely();
        for (int m = 0; m < 3; m++) {
            c.due(1, "run", m, 1, 0, 7).due(0, "refused").due(1, "run", m, 1, 1, 7).due(1, "refused");
            c.due(1, "run", m, 1, 200, 7).due(200, "refused");
        }
        // What is proposed may be the state itself: then it is taken.
        c.due(3, "run", 1, 3, 20, 7).due(0, "refused").due(5, "chance", 2, 1, 3, 0).due(0, "chance", 2, 1, 1, 5);
        c.due(1, "run", 2, 1, 20, 7).due(0, "refused").due(5, "chance", 2, 1, 1, 0);
        // Nothing is proposed.
        c.due(1, "run", 2, 1, 20, 7).due(0, "refused");
        c.due(3, "move", REDRAW, 0, 0).due(4, "move", SLICE, 0, 0);
        c.due(1, "run", 3, 1, 20, 7).due(0, "refused").due(1, "run", 4, 1, 20, 7).due(0, "refused");
        c.due(1, "run", 0, 1, 3, 7).due(3, "refused").due(BAD, "run", 0, 1, -1, 7).due(3, "refused");
    }

    private static void refusedInOthers() {
        Chain.sentence("REFUSED (also in 5, 6)");
        Chain c = lonely().due(3, "move", CYCLE, 0, 1).due(4, "move", MIXED, 1, 2).due(5, "move", CYCLE, 3, 4);
        c.due(6, "move", CYCLE, 3, 3).due(7, "move", MIXED, 3, 3).due(8, "move", REDRAW, 0, 0);
        c.due(9, "move", CYCLE, 8, 4);
        int[] each = {1, 1, 1, 2, 1, 3, 4, 2, 0, 1};
        for (int m = 0; m < 10; m++) {
            c.due(1, "run", m, 1, 200, 7).due(200 * each[m], "refused");
        }
    }
}
