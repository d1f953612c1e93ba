import java.util.Arrays;

/**
 * Chains over the states of a small weighted model: moves, each move's exact chances, and runs by
 * numbers. Everything that a call needs is made in the constructor, so that no call makes objects.
 */
public final class ChainMoves {
    public static final int BAD = -1, STATE = -2, FULL = -3, LONG = -4, DEEP = -5;

    private static final int MOST_PLACES = 4;
    private static final int LEAST_VALUES = 2;
    private static final int MOST_VALUES = 6;
    private static final int MOST_STATES = 16;
    private static final int CELLS = MOST_STATES * MOST_STATES;
    private static final int MOST_WEIGHT = 1000;
    private static final int MOST_MOVES = 10;
    private static final int MOST_DEPTH = 2;
    private static final int MOST_ODDS = 100;
    private static final int MOST_TOLD = 100;
    private static final int MOST_STEPS = 200;

    private static final int REDRAW = 0;
    private static final int STEP = 1;
    private static final int SWAP = 2;
    private static final int TOLD = 3;
    private static final int SLICE = 4;
    private static final int MIXED = 5;
    private static final int CYCLE = 6;

    private final Space space;
    private final Move[] moves;
    private final Chances chances;
    private final Support support;
    private final Walk walk;
    private int moveCount;

    public ChainMoves() {
        Space newSpace = new Space();
        Move[] newMoves = new Move[MOST_MOVES];
        for (int m = 0; m < MOST_MOVES; m++) {
            newMoves[m] = new Move();
        }
        space = newSpace;
        moves = newMoves;
        chances = new Chances(newSpace, newMoves);
        support = new Support(newSpace, newMoves);
        walk = new Walk(newSpace, newMoves);
    }

    public int model(int a, int b, int c, int d) {
        if (!Space.canBe(a, b, c, d)) {
            return BAD;
        }
        space.lay(a, b, c, d);
        moveCount = 0;
        chances.forget();
        walk.forget();
        return space.states;
    }

    public int weight(int s, int w) {
        if (!hasModel()) {
            return STATE;
        }
        if (!space.isState(s) || w < 0 || w > MOST_WEIGHT) {
            return BAD;
        }
        int old = space.weights[s];
        space.weights[s] = w;
        chances.forget();
        return old;
    }

    public int state(int a, int b, int c, int d) {
        if (!hasModel()) {
            return STATE;
        }
        boolean known = space.hasValue(0, a) && space.hasValue(1, b)
                && space.hasValue(2, c) && space.hasValue(3, d);
        if (!known) {
            return BAD;
        }
        return space.part(0, a) + space.part(1, b) + space.part(2, c) + space.part(3, d);
    }

    public int value(int s, int place) {
        if (!hasModel()) {
            return STATE;
        }
        if (!space.isState(s) || !space.isPlace(place)) {
            return BAD;
        }
        return space.valueAt(s, place);
    }

    public int move(int kind, int a, int b) {
        if (!hasModel()) {
            return STATE;
        }
        if (!canName(kind, a, b)) {
            return BAD;
        }
        int depth = depthOf(kind, a, b);
        if (depth > MOST_DEPTH) {
            return DEEP;
        }
        if (moveCount >= MOST_MOVES) {
            return FULL;
        }
        moves[moveCount].become(kind, a, b, depth);
        moveCount++;
        return moveCount - 1;
    }

    public int odds(int m, int p, int q) {
        if (!hasModel()) {
            return STATE;
        }
        if (!isMoveOf(m, MIXED) || p < 1 || p > MOST_ODDS || q < 1 || q > MOST_ODDS) {
            return BAD;
        }
        moves[m].p = p;
        moves[m].q = q;
        chances.forget();
        return 1;
    }

    public int chance(int m, int s, int t, int c) {
        if (!hasModel()) {
            return STATE;
        }
        if (!isMoveOf(m, TOLD) || !space.isState(s) || !space.isState(t)) {
            return BAD;
        }
        if (c < 0 || c > MOST_TOLD) {
            return BAD;
        }
        chances.forget();
        return moves[m].tell(s, t, c);
    }

    public long row(int m, int s, int t, int part) {
        if (!hasModel()) {
            return STATE;
        }
        if (!isMove(m) || !space.isState(s) || !space.isState(t) || part < 0 || part > 1) {
            return BAD;
        }
        Fraction found = chances.find(m, s, t);
        if (!found.fits) {
            return LONG;
        }
        return part == 0 ? found.above : found.below;
    }

    public int keeps(int m) {
        if (!hasModel()) {
            return STATE;
        }
        if (!isMove(m)) {
            return BAD;
        }
        return chances.isKeeping(m);
    }

    public int goesBack(int m) {
        if (!hasModel()) {
            return STATE;
        }
        if (!isMove(m)) {
            return BAD;
        }
        return chances.isBalanced(m);
    }

    public int reach(int m, int s) {
        if (!hasModel()) {
            return STATE;
        }
        if (!isMove(m) || !space.isState(s)) {
            return BAD;
        }
        return Integer.bitCount(support.allFrom(m, s));
    }

    public int run(int m, int s, int n, long seed) {
        if (!hasModel()) {
            return STATE;
        }
        if (!isMove(m) || !space.isState(s) || n < 0 || n > MOST_STEPS) {
            return BAD;
        }
        return walk.go(m, s, n, seed);
    }

    public int trace(int i) {
        if (!walk.isThere()) {
            return STATE;
        }
        if (i < 0 || i > walk.steps) {
            return BAD;
        }
        return walk.path[i];
    }

    public int visits(int s) {
        if (!walk.isThere()) {
            return STATE;
        }
        if (!space.isState(s)) {
            return BAD;
        }
        return walk.timesIn(s);
    }

    public int refused() {
        return walk.isThere() ? walk.refusals : STATE;
    }

    public long together(int place, int lag) {
        if (!walk.isThere()) {
            return STATE;
        }
        if (!space.isPlace(place) || lag < 0 || lag > walk.steps) {
            return BAD;
        }
        return walk.covary(place, lag);
    }

    public int count(int what) {
        switch (what) {
            case 0:
                return space.places;
            case 1:
                return space.states;
            case 2:
                return moveCount;
            case 3:
                return walk.steps;
            default:
                return BAD;
        }
    }

    private boolean hasModel() {
        return space.states > 0;
    }

    private boolean isMove(int m) {
        return m >= 0 && m < moveCount;
    }

    private boolean isMoveOf(int m, int kind) {
        return isMove(m) && moves[m].kind == kind;
    }

    /** Whether there is such a kind and a and b are what it is of; what it does not name is any. */
    private boolean canName(int kind, int a, int b) {
        switch (kind) {
            case REDRAW:
            case STEP:
            case SLICE:
                return space.isPlace(a);
            case SWAP:
                return space.isPlace(a) && space.isPlace(b) && a != b
                        && space.sizes[a] == space.sizes[b];
            case TOLD:
                return true;
            case MIXED:
            case CYCLE:
                return isMove(a) && isMove(b);
            default:
                return false;
        }
    }

    /** How many of MIXED and CYCLE lie in one another in such a move, itself among them. */
    private int depthOf(int kind, int a, int b) {
        boolean isOfMoves = kind == MIXED || kind == CYCLE;
        if (!isOfMoves || !isMove(a) || !isMove(b)) {
            return 0;
        }
        return 1 + Math.max(moves[a].depth, moves[b].depth);
    }

    /** The model: its places, the values of its states and their weights. */
    private static final class Space {
        private int places;
        private int states;
        private final int[] sizes = new int[MOST_PLACES];
        private final int[] strides = new int[MOST_PLACES];
        private final int[] values = new int[MOST_STATES * MOST_PLACES];
        private final int[] weights = new int[MOST_STATES];

        private static boolean canBe(int a, int b, int c, int d) {
            boolean sized = a != 0 && isSize(a) && isSize(b) && isSize(c) && isSize(d);
            boolean gapless = (b != 0 || c == 0) && (c != 0 || d == 0);
            return sized && gapless
                    && a * Math.max(b, 1) * Math.max(c, 1) * Math.max(d, 1) <= MOST_STATES;
        }

        private static boolean isSize(int size) {
            return size == 0 || size >= LEAST_VALUES && size <= MOST_VALUES;
        }

        private void lay(int a, int b, int c, int d) {
            sizes[0] = a;
            sizes[1] = b;
            sizes[2] = c;
            sizes[3] = d;
            places = 0;
            int stride = 1;
            for (int place = MOST_PLACES - 1; place >= 0; place--) {
                int size = Math.max(sizes[place], 1);
                strides[place] = stride;
                for (int s = 0; s < MOST_STATES; s++) {
                    values[s * MOST_PLACES + place] = s / stride % size;
                }
                stride *= size;
                places += sizes[place] > 0 ? 1 : 0;
            }
            states = stride;
            Arrays.fill(weights, 1);
        }

        private boolean isState(int s) {
            return s >= 0 && s < states;
        }

        private boolean isPlace(int place) {
            return place >= 0 && place < places;
        }

        /** A place that is not there takes any value, as it has no part in the state. */
        private boolean hasValue(int place, int v) {
            return !isPlace(place) || v >= 0 && v < sizes[place];
        }

        private int part(int place, int v) {
            return isPlace(place) ? v * strides[place] : 0;
        }

        private int valueAt(int s, int place) {
            return values[s * MOST_PLACES + place];
        }

        /** The state that is s but for the value v at the place. */
        private int inLine(int s, int place, int v) {
            return s + (v - valueAt(s, place)) * strides[place];
        }

        private int next(int s, int place) {
            int v = valueAt(s, place) + 1;
            return inLine(s, place, v < sizes[place] ? v : 0);
        }

        private int before(int s, int place) {
            int v = valueAt(s, place) - 1;
            return inLine(s, place, v >= 0 ? v : sizes[place] - 1);
        }

        private int exchanged(int s, int a, int b) {
            int more = valueAt(s, b) - valueAt(s, a);
            return s + more * strides[a] - more * strides[b];
        }

        private boolean sharesLine(int s, int t, int place) {
            return inLine(s, place, valueAt(t, place)) == t;
        }

        private int lineSum(int s, int place) {
            int sum = 0;
            for (int v = 0; v < sizes[place]; v++) {
                sum += weights[inLine(s, place, v)];
            }
            return sum;
        }

        /** How many states of the line have at least the level as their weight. */
        private int lineCount(int s, int place, int level) {
            int count = 0;
            for (int v = 0; v < sizes[place]; v++) {
                count += weights[inLine(s, place, v)] >= level ? 1 : 0;
            }
            return count;
        }

        /** ACCEPTED has the chance taken(s, t) / all(s): 1 / 1 from a weight of 0. */
        private int taken(int s, int t) {
            return weights[s] == 0 ? 1 : Math.min(weights[s], weights[t]);
        }

        private int all(int s) {
            return Math.max(weights[s], 1);
        }

        /** The document's x of a told move from s to t; its y is the same from t to s. */
        private long pull(Move told, int s, int t) {
            return (long) weights[t] * told.toldOf(t, s) * told.toldSums[s];
        }
    }

    /** A move, and the chances of it that have been reckoned since something last changed. */
    private static final class Move {
        private static final int UNKNOWN = 0;
        private static final int TOO_LONG = -1;

        private int kind;
        private int a;
        private int b;
        private int p;
        private int q;
        private int depth;
        private final int[] told = new int[CELLS];
        private final int[] toldSums = new int[MOST_STATES];
        private final long[] above = new long[CELLS];
        private final long[] below = new long[CELLS];
        private int reckonedAt;

        private static int cell(int s, int t) {
            return s * MOST_STATES + t;
        }

        private void become(int newKind, int newA, int newB, int newDepth) {
            kind = newKind;
            a = newA;
            b = newB;
            p = 1;
            q = 1;
            depth = newDepth;
            Arrays.fill(told, 0);
            Arrays.fill(toldSums, 0);
        }

        private int toldOf(int s, int t) {
            return told[s * MOST_STATES + t];
        }

        private int tell(int s, int t, int c) {
            int old = toldOf(s, t);
            told[s * MOST_STATES + t] = c;
            toldSums[s] += c - old;
            return old;
        }

        /** Drops what was reckoned before the change of that number. */
        private void freshen(int change) {
            if (reckonedAt != change) {
                Arrays.fill(below, UNKNOWN);
                reckonedAt = change;
            }
        }

        private boolean knows(int s, int t) {
            return below[cell(s, t)] != UNKNOWN;
        }

        private void store(int s, int t, Fraction found) {
            above[cell(s, t)] = found.above;
            below[cell(s, t)] = found.fits ? found.below : TOO_LONG;
        }

        private void load(int s, int t, Fraction into) {
            into.above = above[cell(s, t)];
            into.below = below[cell(s, t)];
            into.fits = into.below > 0;
        }
    }

    /** A fraction of no negative numbers in lowest terms, or the mark that it did not fit. */
    private static final class Fraction {
        // Euclid's way ends within 92 divisions for numbers that fit in a long.
        private static final int MOST_DIVISIONS = 100;

        private long above;
        private long below = 1;
        private boolean fits = true;

        private static long divisor(long x, long y) {
            long a = x;
            long b = y;
            for (int i = 0; i < MOST_DIVISIONS && b != 0; i++) {
                long rest = a % b;
                a = b;
                b = rest;
            }
            return a > 0 ? a : 1;
        }

        private static boolean fitProduct(long x, long y) {
            return x == 0 || y <= Long.MAX_VALUE / x;
        }

        private void set(long newAbove, long newBelow) {
            long g = divisor(newAbove, newBelow);
            above = newAbove / g;
            below = newBelow / g;
            fits = true;
        }

        private void times(Fraction f) {
            fits = fits && f.fits && fitProduct(above, f.above) && fitProduct(below, f.below);
            if (fits) {
                set(above * f.above, below * f.below);
            }
        }

        /** Adds it with the sign 1, takes it off with the sign -1. */
        private void add(int sign, Fraction f) {
            fits = fits && f.fits;
            // A 0 is 0 / 1 and changes nothing: this saves two greatest divisors.
            if (!fits || f.above == 0) {
                return;
            }
            long g = divisor(below, f.below);
            long mine = f.below / g;
            long its = below / g;
            fits = fitProduct(above, mine) && fitProduct(f.above, its) && fitProduct(below, mine);
            if (!fits) {
                return;
            }
            long first = above * mine;
            long second = f.above * its;
            fits = sign < 0 || first <= Long.MAX_VALUE - second;
            if (fits) {
                set(first + sign * second, below * mine);
            }
        }

        private boolean isSame(Fraction f) {
            return above == f.above && below == f.below;
        }
    }

    /** The exact chances of the moves, kept in the moves until something changes. */
    private static final class Chances {
        // All of 1 to 6, as many as a line may have, divide it.
        private static final int SHARES = 60;

        private final Space space;
        private final Move[] moves;
        private final Fraction found = new Fraction();
        private final Fraction term = new Fraction();
        private final Fraction factor = new Fraction();
        private final Fraction here = new Fraction();
        private final Fraction there = new Fraction();
        private int change = 1;

        private Chances(Space space, Move[] moves) {
            this.space = space;
            this.moves = moves;
        }

        private void forget() {
            change++;
        }

        private Fraction find(int m, int s, int t) {
            reckon(m, s, t, 0);
            moves[m].load(s, t, found);
            return found;
        }

        private int isKeeping(int m) {
            for (int t = 0; t < space.states; t++) {
                here.set(0, 1);
                for (int s = 0; s < space.states && here.fits; s++) {
                    reckon(m, s, t, 0);
                    weigh(m, s, t, there);
                    here.add(1, there);
                }
                if (!here.fits) {
                    return LONG;
                }
                there.set(space.weights[t], 1);
                if (!here.isSame(there)) {
                    return 0;
                }
            }
            return 1;
        }

        private int isBalanced(int m) {
            for (int s = 0; s < space.states; s++) {
                for (int t = s + 1; t < space.states; t++) {
                    reckon(m, s, t, 0);
                    reckon(m, t, s, 0);
                    weigh(m, s, t, here);
                    weigh(m, t, s, there);
                    if (!here.fits || !there.fits) {
                        return LONG;
                    }
                    if (!here.isSame(there)) {
                        return 0;
                    }
                }
            }
            return 1;
        }

        private void weigh(int m, int s, int t, Fraction into) {
            moves[m].load(s, t, into);
            factor.set(space.weights[s], 1);
            into.times(factor);
        }

        /** Sees to it that the move has CHANCE(s, t) among what is reckoned. */
        private void reckon(int m, int s, int t, int depth) {
            Move move = moves[m];
            move.freshen(change);
            if (depth > MOST_DEPTH || move.knows(s, t)) {
                return;
            }
            switch (move.kind) {
                case REDRAW:
                    redraw(move.a, s, t);
                    break;
                case STEP:
                    propose(space.next(s, move.a), space.before(s, move.a), s, t);
                    break;
                case SWAP:
                    int other = space.exchanged(s, move.a, move.b);
                    propose(other, other, s, t);
                    break;
                case TOLD:
                    tell(move, s, t);
                    break;
                case SLICE:
                    slice(move.a, s, t);
                    break;
                case MIXED:
                    mix(move, s, t, depth);
                    break;
                default:
                    cycle(move, s, t, depth);
                    break;
            }
            move.store(s, t, found);
        }

        private void redraw(int place, int s, int t) {
            int sum = space.lineSum(s, place);
            if (sum == 0) {
                found.set(s == t ? 1 : 0, 1);
            } else {
                found.set(space.sharesLine(s, t, place) ? space.weights[t] : 0, sum);
            }
        }

        /** One of two states, which may be the same, is proposed, each with the chance 1 / 2. */
        private void propose(int first, int second, int s, int t) {
            int all = space.all(s);
            int byFirst = space.taken(s, first);
            int bySecond = space.taken(s, second);
            int led = (t == first ? byFirst : 0) + (t == second ? bySecond : 0);
            int stayed = t == s ? 2 * all - byFirst - bySecond : 0;
            found.set(led + stayed, 2L * all);
        }

        private void tell(Move move, int s, int t) {
            if (s != t) {
                tellOther(move, s, t, found);
                return;
            }
            found.set(1, 1);
            for (int u = 0; u < space.states; u++) {
                if (u != s) {
                    tellOther(move, s, u, term);
                    found.add(-1, term);
                }
            }
        }

        /** All products here stay below 2^38, as weights and told chances are small. */
        private void tellOther(Move move, int s, int t, Fraction into) {
            long c = move.toldOf(s, t);
            long sum = move.toldSums[s];
            long x = space.pull(move, s, t);
            long y = space.pull(move, t, s);
            boolean always = space.weights[s] == 0;
            if (c == 0 || !always && x == 0) {
                into.set(0, 1);
            } else if (always || x >= y) {
                into.set(c, sum);
            } else {
                into.set(c * x, sum * y);
            }
        }

        /** Goes up the levels by the weights in the line, between which the choice is the same. */
        private void slice(int place, int s, int t) {
            int ws = space.weights[s];
            if (ws == 0 || !space.sharesLine(s, t, place)) {
                found.set(s == t ? 1 : 0, 1);
                return;
            }
            int top = Math.min(ws, space.weights[t]);
            int low = 0;
            long shares = 0;
            for (int i = 0; i < MOST_VALUES && low < top; i++) {
                int high = nextWeight(place, s, low, top);
                int among = Math.max(space.lineCount(s, place, low + 1), 1);
                shares += (long) (high - low) * (SHARES / among);
                low = high;
            }
            found.set(shares, (long) SHARES * ws);
        }

        /** The least weight in the line that is above low, at most top. */
        private int nextWeight(int place, int s, int low, int top) {
            int least = top;
            for (int v = 0; v < space.sizes[place]; v++) {
                int w = space.weights[space.inLine(s, place, v)];
                if (w > low && w < least) {
                    least = w;
                }
            }
            return least;
        }

        private void mix(Move move, int s, int t, int depth) {
            reckon(move.a, s, t, depth + 1);
            reckon(move.b, s, t, depth + 1);
            long both = move.p + move.q;
            moves[move.a].load(s, t, term);
            found.set(move.p, both);
            found.times(term);
            moves[move.b].load(s, t, factor);
            term.set(move.q, both);
            term.times(factor);
            found.add(1, term);
        }

        /** Reckons both moves' chances before it adds, as reckoning them needs the same fractions. */
        private void cycle(Move move, int s, int t, int depth) {
            for (int r = 0; r < space.states; r++) {
                reckon(move.a, s, r, depth + 1);
                reckon(move.b, r, t, depth + 1);
            }
            found.set(0, 1);
            for (int r = 0; r < space.states && found.fits; r++) {
                moves[move.a].load(s, r, term);
                moves[move.b].load(r, t, factor);
                term.times(factor);
                found.add(1, term);
            }
        }
    }

    /** Which states have a chance above 0, told without fractions: so it can't be LONG. */
    private static final class Support {
        private final Space space;
        private final Move[] moves;

        private Support(Space space, Move[] moves) {
            this.space = space;
            this.moves = moves;
        }

        /** The states, as bits, that are reached from s by the move, however often it is made. */
        private int allFrom(int m, int s) {
            int reached = 1 << s;
            int done = 0;
            for (int i = 0; i < MOST_STATES && done != reached; i++) {
                int from = Integer.numberOfTrailingZeros(reached & ~done);
                reached |= onward(m, from, 0);
                done |= 1 << from;
            }
            return reached;
        }

        /** The states, as bits, to which the move leads from s. */
        private int onward(int m, int s, int depth) {
            if (depth > MOST_DEPTH) {
                return 0;
            }
            Move move = moves[m];
            switch (move.kind) {
                case REDRAW:
                    return space.lineSum(s, move.a) == 0 ? 1 << s : weighty(s, move.a);
                case STEP:
                    return proposed(s, space.next(s, move.a))
                            | proposed(s, space.before(s, move.a));
                case SWAP:
                    return proposed(s, space.exchanged(s, move.a, move.b));
                case TOLD:
                    return toldOnward(move, s);
                case SLICE:
                    return space.weights[s] == 0 ? 1 << s : weighty(s, move.a);
                case MIXED:
                    return onward(move.a, s, depth + 1) | onward(move.b, s, depth + 1);
                default:
                    return cycled(move, s, depth);
            }
        }

        private int weighty(int s, int place) {
            int bits = 0;
            for (int v = 0; v < space.sizes[place]; v++) {
                int t = space.inLine(s, place, v);
                bits |= space.weights[t] > 0 ? 1 << t : 0;
            }
            return bits;
        }

        private int proposed(int s, int t) {
            int led = space.taken(s, t) > 0 ? 1 << t : 0;
            int stayed = space.weights[t] < space.weights[s] ? 1 << s : 0;
            return led | stayed;
        }

        private int toldOnward(Move move, int s) {
            if (move.toldSums[s] == 0) {
                return 1 << s;
            }
            int bits = 0;
            for (int t = 0; t < space.states; t++) {
                if (move.toldOf(s, t) > 0) {
                    bits |= toldProposed(move, s, t);
                }
            }
            return bits;
        }

        private int toldProposed(Move move, int s, int t) {
            long x = space.pull(move, s, t);
            long y = space.pull(move, t, s);
            if (space.weights[s] == 0 || x >= y && x > 0) {
                return 1 << t;
            }
            return x == 0 ? 1 << s : 1 << t | 1 << s;
        }

        private int cycled(Move move, int s, int depth) {
            int between = onward(move.a, s, depth + 1);
            int bits = 0;
            for (int r = 0; r < space.states; r++) {
                if ((between >> r & 1) == 1) {
                    bits |= onward(move.b, r, depth + 1);
                }
            }
            return bits;
        }
    }

    /** The latest run: the numbers it draws, where it was, what it refused. */
    private static final class Walk {
        private static final int NO_RUN = -1;
        private static final long FACTOR = 25214903917L;
        private static final long SUMMAND = 11;
        private static final long LOW_BITS = (1L << 48) - 1;
        private static final int CUT_BITS = 17;

        private final Space space;
        private final Move[] moves;
        private final int[] path = new int[MOST_STEPS + 1];
        private int steps = NO_RUN;
        private int refusals;
        private long number;

        private Walk(Space space, Move[] moves) {
            this.space = space;
            this.moves = moves;
        }

        private boolean isThere() {
            return steps != NO_RUN;
        }

        private void forget() {
            steps = NO_RUN;
        }

        private int go(int m, int s, int n, long seed) {
            number = seed & LOW_BITS;
            refusals = 0;
            steps = n;
            path[0] = s;
            for (int i = 0; i < n; i++) {
                path[i + 1] = lead(m, path[i], 0);
            }
            return path[n];
        }

        private int timesIn(int s) {
            int times = 0;
            for (int i = 0; i <= steps; i++) {
                times += path[i] == s ? 1 : 0;
            }
            return times;
        }

        private long covary(int place, int lag) {
            long pairs = steps + 1 - lag;
            long products = 0;
            long early = 0;
            long late = 0;
            for (int i = 0; i + lag <= steps; i++) {
                long first = space.valueAt(path[i], place);
                long second = space.valueAt(path[i + lag], place);
                products += first * second;
                early += first;
                late += second;
            }
            return pairs * products - early * late;
        }

        private long draw(long n) {
            number = (number * FACTOR + SUMMAND) & LOW_BITS;
            return n > 0 ? (number >> CUT_BITS) % n : 0;
        }

        /** The state that the move leads to from s. */
        private int lead(int m, int s, int depth) {
            if (depth > MOST_DEPTH) {
                return s;
            }
            Move move = moves[m];
            switch (move.kind) {
                case REDRAW:
                    return redraw(move.a, s);
                case STEP:
                    return accept(s, draw(2) == 0 ? space.next(s, move.a) : space.before(s, move.a));
                case SWAP:
                    return accept(s, space.exchanged(s, move.a, move.b));
                case TOLD:
                    return followTold(move, s);
                case SLICE:
                    return slice(move.a, s);
                case MIXED:
                    return lead(draw(move.p + move.q) < move.p ? move.a : move.b, s, depth + 1);
                default:
                    return lead(move.b, lead(move.a, s, depth + 1), depth + 1);
            }
        }

        private int redraw(int place, int s) {
            int sum = space.lineSum(s, place);
            if (sum == 0) {
                return s;
            }
            long left = draw(sum);
            for (int v = 0; v < space.sizes[place]; v++) {
                int t = space.inLine(s, place, v);
                left -= space.weights[t];
                if (left < 0) {
                    return t;
                }
            }
            return s;
        }

        private int accept(int s, int t) {
            return decide(space.weights[t], space.weights[s]) ? t : refuse(s);
        }

        private boolean decide(long x, long y) {
            return x >= y || draw(y) < x;
        }

        private int refuse(int s) {
            refusals++;
            return s;
        }

        private int followTold(Move move, int s) {
            if (move.toldSums[s] == 0) {
                return s;
            }
            int t = drawTold(move, s);
            if (space.weights[s] == 0) {
                return t;
            }
            long x = space.pull(move, s, t);
            long y = space.pull(move, t, s);
            return x > 0 && decide(x, y) ? t : refuse(s);
        }

        private int drawTold(Move move, int s) {
            long left = draw(move.toldSums[s]);
            for (int t = 0; t < space.states; t++) {
                left -= move.toldOf(s, t);
                if (left < 0) {
                    return t;
                }
            }
            return s;
        }

        private int slice(int place, int s) {
            if (space.weights[s] == 0) {
                return s;
            }
            int level = 1 + (int) draw(space.weights[s]);
            long left = draw(space.lineCount(s, place, level));
            for (int v = 0; v < space.sizes[place]; v++) {
                int t = space.inLine(s, place, v);
                left -= space.weights[t] >= level ? 1 : 0;
                if (left < 0) {
                    return t;
                }
            }
            return s;
        }
    }
}
