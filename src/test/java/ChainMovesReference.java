import java.math.BigInteger;
import java.util.ArrayList;
import java.util.Arrays;
import java.util.HashMap;
import java.util.HashSet;
import java.util.List;
import java.util.Map;
import java.util.Random;
import java.util.Set;
import java.util.TreeSet;

/**
 * Random runs of calls, each answer compared with a second, slow writing of the document: numbers
 * without a bound, nothing kept from call to call. Covers promises 1 to 18.
 */
public final class ChainMovesReference {
    private static final int BAD = -1, STATE = -2, FULL = -3, LONG = -4, DEEP = -5;
    private static final int RUNS = 1500;
    private static final int CALLS = 512;
    // Runs in which a sum in keeps is LONG by what is above alone.
    private static final int[] RARE_RUNS = {17204, 25742};

    private static int wrong = 0;
    private static final Set<String> seen = new HashSet<>();

    public static void main(String[] args) {
        int runs = args.length > 0 ? Integer.parseInt(args[0]) : RUNS;
        long first = args.length > 1 ? Long.parseLong(args[1]) : 0;
        for (int run = 0; run < runs && wrong < 20; run++) {
            compareRun(run, new Random(first + run));
            compareLong(run, new Random(first + run));
        }
        for (int run : RARE_RUNS) {
            compareLong(run, new Random(run));
        }
        for (String needed : new String[] {"row LONG", "keeps 1", "keeps LONG",
            "goesBack 1", "goesBack 0", "goesBack LONG", "move DEEP", "move FULL", "together <0"}) {
            if (!seen.contains(needed)) {
                wrong++;
                System.out.println("no call came to: " + needed);
            }
        }
        System.out.println(wrong == 0 ? "all answers are as due" : wrong + " answers are not as due");
        if (wrong != 0) {
            System.exit(1);
        }
    }

    private static void compareRun(int run, Random random) {
        ChainMoves x = new ChainMoves();
        Slow y = new Slow();
        int style = random.nextInt(4);
        for (int i = 0; i < CALLS; i++) {
            String what = pick(random, i);
            if (!isSame(run, x, y, what, arguments(what, random, y, style))) {
                return;
            }
        }
    }

    private static boolean isSame(int run, ChainMoves x, Slow y, String what, long... a) {
        long got = call(x, what, a);
        long want = y.call(what, a);
        note(what, want);
        if (got != want) {
            wrong++;
            System.out.println("run " + run + ": " + what + Arrays.toString(a)
                    + " answered " + got + ", due is " + want);
        }
        return got == want;
    }

    /** Told moves of many chances, mixed and in cycles: their fractions come close to LONG, or to it. */
    private static void compareLong(int run, Random random) {
        ChainMoves x = new ChainMoves();
        Slow y = new Slow();
        long[][] sizes = {{3, 0, 0, 0}, {4, 0, 0, 0}, {5, 0, 0, 0}, {6, 0, 0, 0}, {2, 4, 0, 0}, {3, 3, 0, 0}};
        isSame(run, x, y, "model", sizes[random.nextInt(sizes.length)]);
        int most = random.nextBoolean() ? 1000 : 1 + random.nextInt(60);
        int often = 1 + random.nextInt(3);
        for (int s = 0; s < y.states; s++) {
            isSame(run, x, y, "weight", s, 1 + random.nextInt(most));
        }
        for (int m = 0; m < 3; m++) {
            isSame(run, x, y, "move", m == 2 ? random.nextInt(5) : 3, 0, 1);
        }
        for (int m = 0; m < 2; m++) {
            for (int s = 0; s < y.states; s++) {
                for (int t = 0; t < y.states; t++) {
                    if (random.nextInt(often) == 0) {
                        isSame(run, x, y, "chance", m, s, t, random.nextInt(101));
                    }
                }
            }
        }
        for (int m = y.moves.size(); m < 7; m++) {
            isSame(run, x, y, "move", 5 + random.nextInt(2), random.nextInt(m), random.nextInt(m));
            isSame(run, x, y, "odds", m, 1 + random.nextInt(100), 1 + random.nextInt(100));
        }
        for (int m = 0; m < y.moves.size(); m++) {
            isSame(run, x, y, "keeps", m);
            isSame(run, x, y, "goesBack", m);
            isSame(run, x, y, "row", m, random.nextInt(y.states), random.nextInt(y.states), 0);
            isSame(run, x, y, "row", m, random.nextInt(y.states), random.nextInt(y.states), 1);
        }
    }

    private static void note(String what, long want) {
        String answer = want == LONG ? "LONG" : want == DEEP ? "DEEP" : want == FULL ? "FULL" : "" + want;
        seen.add(what.equals("together") && want < DEEP ? "together <0" : what + " " + answer);
    }

    private static final String[] CALLED = {"weight", "weight", "weight", "state", "value", "move", "move",
        "odds", "chance", "chance", "chance", "chance", "row", "row", "row", "row", "keeps", "goesBack",
        "reach", "reach", "run", "run", "trace", "visits", "refused", "together", "together", "count"};

    private static String pick(Random random, int i) {
        if (i == 3 || i > 3 && random.nextInt(200) == 0) {
            return "model";
        }
        return CALLED[random.nextInt(CALLED.length)];
    }

    private static long[] arguments(String what, Random r, Slow y, int style) {
        int states = Math.max(y.states, 1);
        int moves = Math.max(y.moves.size(), 1);
        int places = Math.max(y.sizes.size(), 1);
        switch (what) {
            case "model":
                return modelSizes(r, style);
            case "weight":
                return new long[] {near(r, states), weightOf(r, style)};
            case "state":
                return new long[] {near(r, 4), near(r, 4), near(r, 3), near(r, 2)};
            case "value":
                return new long[] {near(r, states), near(r, places)};
            case "move":
                int kind = near(r, 7);
                return kind >= 5 ? new long[] {kind, near(r, moves), near(r, moves)}
                        : new long[] {kind, near(r, places), near(r, places)};
            case "odds":
                return new long[] {oneOf(r, y, 5), 1 + near(r, 100), 1 + near(r, 100)};
            case "chance":
                return new long[] {oneOf(r, y, 3), near(r, states), near(r, states),
                    style == 0 ? r.nextInt(4) : near(r, 101)};
            case "row":
                return new long[] {near(r, moves), near(r, states), near(r, states), near(r, 2)};
            case "keeps":
            case "goesBack":
                return new long[] {near(r, moves)};
            case "reach":
                return new long[] {near(r, moves), near(r, states)};
            case "run":
                return new long[] {near(r, moves), near(r, states), near(r, 201), r.nextLong()};
            case "trace":
                return new long[] {near(r, Math.max(y.path.size(), 1))};
            case "visits":
                return new long[] {near(r, states)};
            case "refused":
                return new long[] {};
            case "together":
                return new long[] {near(r, places), near(r, Math.max(y.path.size(), 1))};
            default:
                return new long[] {near(r, 4)};
        }
    }

    private static long[] modelSizes(Random r, int style) {
        long[][] some = {{2, 2, 2, 2}, {4, 4, 0, 0}, {6, 2, 0, 0}, {3, 3, 0, 0}, {2, 3, 2, 0}, {5, 3, 0, 0},
            {4, 2, 2, 0}, {2, 2, 3, 0}, {6, 0, 0, 0}, {2, 0, 0, 0}, {2, 2, 0, 0}};
        if (r.nextInt(3) > 0) {
            return some[style == 1 ? r.nextInt(2) : r.nextInt(some.length)];
        }
        return new long[] {r.nextInt(8), r.nextInt(8), r.nextBoolean() ? 0 : r.nextInt(8), r.nextInt(3) - 1};
    }

    private static long weightOf(Random r, int style) {
        if (r.nextInt(20) == 0) {
            return r.nextInt(3) == 0 ? -1 : 1000 + r.nextInt(3);
        }
        if (r.nextInt(6) == 0) {
            return 0;
        }
        return style <= 1 ? r.nextInt(5) : r.nextInt(1001);
    }

    /** Mostly a number from 0 to n - 1, now and then one that is none. */
    private static int near(Random r, int n) {
        if (r.nextInt(40) == 0) {
            int[] off = {-1, n, n + 1, Integer.MIN_VALUE, Integer.MAX_VALUE};
            return off[r.nextInt(off.length)];
        }
        return r.nextInt(n);
    }

    private static long oneOf(Random r, Slow y, int kind) {
        List<Integer> of = new ArrayList<>();
        for (int m = 0; m < y.moves.size(); m++) {
            if (y.moves.get(m).kind == kind) {
                of.add(m);
            }
        }
        return of.isEmpty() || r.nextInt(30) == 0 ? near(r, 10) : of.get(r.nextInt(of.size()));
    }

    private static long call(ChainMoves x, String what, long[] a) {
        int[] i = new int[4];
        for (int k = 0; k < a.length; k++) {
            i[k] = (int) a[k];
        }
        switch (what) {
            case "model": return x.model(i[0], i[1], i[2], i[3]);
            case "weight": return x.weight(i[0], i[1]);
            case "state": return x.state(i[0], i[1], i[2], i[3]);
            case "value": return x.value(i[0], i[1]);
            case "move": return x.move(i[0], i[1], i[2]);
            case "odds": return x.odds(i[0], i[1], i[2]);
            case "chance": return x.chance(i[0], i[1], i[2], i[3]);
            case "row": return x.row(i[0], i[1], i[2], i[3]);
            case "keeps": return x.keeps(i[0]);
            case "goesBack": return x.goesBack(i[0]);
            case "reach": return x.reach(i[0], i[1]);
            case "run": return x.run(i[0], i[1], i[2], a[3]);
            case "trace": return x.trace(i[0]);
            case "visits": return x.visits(i[0]);
            case "refused": return x.refused();
            case "together": return x.together(i[0], i[1]);
            default: return x.count(i[0]);
        }
    }

    /** What the document calls LONG. */
    private static final class TooLong extends RuntimeException {
        private static final long serialVersionUID = 1;

        TooLong() {
            super(null, null, false, false);
        }
    }

    /** A fraction in lowest terms; checked ones are LONG where a long would not hold them. */
    private record Ratio(BigInteger above, BigInteger below) {
        static final Ratio ZERO = of(0, 1);
        static final Ratio ONE = of(1, 1);

        static Ratio of(long a, long b) {
            return lowest(BigInteger.valueOf(a), BigInteger.valueOf(b));
        }

        static Ratio lowest(BigInteger a, BigInteger b) {
            BigInteger g = a.gcd(b);
            return new Ratio(a.divide(g), b.divide(g));
        }

        static BigInteger held(BigInteger n) {
            if (n.bitLength() > 63) {
                throw new TooLong();
            }
            return n;
        }

        Ratio times(Ratio f) {
            return lowest(held(above.multiply(f.above)), held(below.multiply(f.below)));
        }

        Ratio joined(Ratio f, boolean less) {
            BigInteger g = below.gcd(f.below);
            BigInteger left = held(above.multiply(f.below.divide(g)));
            BigInteger right = held(f.above.multiply(below.divide(g)));
            BigInteger under = held(below.multiply(f.below.divide(g)));
            return lowest(held(less ? left.subtract(right) : left.add(right)), under);
        }
    }

    private static final class SlowMove {
        int kind, a, b, p = 1, q = 1;
        int[][] c = new int[16][16];

        int sum(int s) {
            int sum = 0;
            for (int t = 0; t < 16; t++) {
                sum += c[s][t];
            }
            return sum;
        }
    }

    private static final class Slow {
        List<Integer> sizes = new ArrayList<>();
        int states = 0;
        List<SlowMove> moves = new ArrayList<>();
        List<Integer> path = new ArrayList<>();
        int[] w = new int[16];
        BigInteger x = BigInteger.ZERO;
        int refused;
        Map<Integer, Ratio> reckoned = new HashMap<>();
        Map<Integer, Boolean> led = new HashMap<>();

        long call(String what, long[] a) {
            reckoned.clear();
            led.clear();
            try {
                switch (what) {
                    case "model": return model(a);
                    case "count": return count(a[0]);
                    case "trace": case "visits": case "refused": case "together":
                        return path.isEmpty() ? STATE : ofRun(what, a);
                    default:
                        return states == 0 ? STATE : ofModel(what, a);
                }
            } catch (TooLong e) {
                return LONG;
            }
        }

        long count(long what) {
            return what == 0 ? sizes.size() : what == 1 ? states : what == 2 ? moves.size()
                    : what == 3 ? path.size() - 1 : BAD;
        }

        long model(long[] a) {
            List<Integer> found = new ArrayList<>();
            int product = 1;
            boolean ended = false;
            for (int i = 0; i < 4; i++) {
                if (a[i] == 0 && i > 0) {
                    ended = true;
                } else if (a[i] < 2 || a[i] > 6 || ended) {
                    return BAD;
                } else {
                    found.add((int) a[i]);
                    product *= (int) a[i];
                }
            }
            if (product > 16) {
                return BAD;
            }
            sizes = found;
            states = product;
            moves.clear();
            path.clear();
            Arrays.fill(w, 1);
            return states;
        }

        long ofRun(String what, long[] a) {
            switch (what) {
                case "trace":
                    return a[0] < 0 || a[0] >= path.size() ? BAD : path.get((int) a[0]);
                case "visits":
                    return !isState(a[0]) ? BAD : path.stream().filter(s -> s == a[0]).count();
                case "refused":
                    return refused;
                default:
                    return !isPlace(a[0]) || a[1] < 0 || a[1] >= path.size() ? BAD
                            : together((int) a[0], (int) a[1]);
            }
        }

        long together(int place, int lag) {
            long n = 0, both = 0, one = 0, two = 0;
            for (int i = 0; i + lag < path.size(); i++) {
                int u = values(path.get(i))[place], v = values(path.get(i + lag))[place];
                n++;
                both += u * v;
                one += u;
                two += v;
            }
            return n * both - one * two;
        }

        long ofModel(String what, long[] a) {
            int[] i = new int[4];
            for (int k = 0; k < a.length; k++) {
                i[k] = (int) a[k];
            }
            switch (what) {
                case "weight": {
                    if (!isState(a[0]) || a[1] < 0 || a[1] > 1000) return BAD;
                    int old = w[i[0]];
                    w[i[0]] = i[1];
                    return old;
                }
                case "state":
                    return state(i);
                case "value":
                    return !isState(a[0]) || !isPlace(a[1]) ? BAD : values(i[0])[i[1]];
                case "move":
                    return move(i[0], i[1], i[2]);
                case "odds": {
                    if (!isMove(a[0]) || moves.get(i[0]).kind != 5) return BAD;
                    if (a[1] < 1 || a[1] > 100 || a[2] < 1 || a[2] > 100) return BAD;
                    moves.get(i[0]).p = i[1];
                    moves.get(i[0]).q = i[2];
                    return 1;
                }
                case "chance": {
                    if (!isMove(a[0]) || moves.get(i[0]).kind != 3) return BAD;
                    if (!isState(a[1]) || !isState(a[2]) || a[3] < 0 || a[3] > 100) return BAD;
                    int old = moves.get(i[0]).c[i[1]][i[2]];
                    moves.get(i[0]).c[i[1]][i[2]] = i[3];
                    return old;
                }
                case "row": {
                    if (!isMove(a[0]) || !isState(a[1]) || !isState(a[2])) return BAD;
                    if (a[3] != 0 && a[3] != 1) return BAD;
                    Ratio f = ratio(i[0], i[1], i[2]);
                    return (a[3] == 0 ? f.above : f.below).longValueExact();
                }
                case "keeps":
                    return !isMove(a[0]) ? BAD : keeps(i[0]);
                case "goesBack":
                    return !isMove(a[0]) ? BAD : goesBack(i[0]);
                case "reach":
                    return !isMove(a[0]) || !isState(a[1]) ? BAD : reach(i[0], i[1]);
                default:
                    if (!isMove(a[0]) || !isState(a[1]) || a[2] < 0 || a[2] > 200) return BAD;
                    return run(i[0], i[1], i[2], a[3]);
            }
        }

        boolean isState(long s) {
            return s >= 0 && s < states;
        }

        boolean isPlace(long place) {
            return place >= 0 && place < sizes.size();
        }

        boolean isMove(long m) {
            return m >= 0 && m < moves.size();
        }

        long state(int[] values) {
            int s = 0;
            for (int i = 0; i < sizes.size(); i++) {
                if (values[i] < 0 || values[i] >= sizes.get(i)) return BAD;
                s = s * sizes.get(i) + values[i];
            }
            return s;
        }

        int[] values(int s) {
            int[] values = new int[4];
            int rest = s;
            for (int i = sizes.size() - 1; i >= 0; i--) {
                values[i] = rest % sizes.get(i);
                rest /= sizes.get(i);
            }
            return values;
        }

        int with(int s, int place, int v) {
            int[] values = values(s);
            values[place] = Math.floorMod(v, sizes.get(place));
            return (int) state(values);
        }

        List<Integer> line(int s, int place) {
            List<Integer> line = new ArrayList<>();
            for (int v = 0; v < sizes.get(place); v++) {
                line.add(with(s, place, v));
            }
            return line;
        }

        int shift(int s, int place, int by) {
            return with(s, place, values(s)[place] + by);
        }

        int swapped(int s, int a, int b) {
            int[] values = values(s);
            int kept = values[a];
            values[a] = values[b];
            values[b] = kept;
            return (int) state(values);
        }

        long move(int kind, int a, int b) {
            boolean known;
            if (kind == 0 || kind == 1 || kind == 4) known = isPlace(a);
            else if (kind == 2) known = isPlace(a) && isPlace(b) && a != b && sizes.get(a).equals(sizes.get(b));
            else if (kind == 3) known = true;
            else known = (kind == 5 || kind == 6) && isMove(a) && isMove(b);
            if (!known) return BAD;
            SlowMove made = new SlowMove();
            made.kind = kind;
            made.a = a;
            made.b = b;
            if (nested(made) > 2) return DEEP;
            if (moves.size() == 10) return FULL;
            moves.add(made);
            return moves.size() - 1;
        }

        int nested(SlowMove m) {
            return m.kind < 5 ? 0 : 1 + Math.max(nested(moves.get(m.a)), nested(moves.get(m.b)));
        }

        Ratio ratio(int m, int s, int t) {
            int key = (m * 16 + s) * 16 + t;
            Ratio known = reckoned.get(key);
            if (known == null) {
                known = reckon(moves.get(m), s, t);
                reckoned.put(key, known);
            }
            return known;
        }

        Ratio reckon(SlowMove m, int s, int t) {
            switch (m.kind) {
                case 0: {
                    int sum = line(s, m.a).stream().mapToInt(u -> w[u]).sum();
                    if (sum == 0) return s == t ? Ratio.ONE : Ratio.ZERO;
                    return line(s, m.a).contains(t) ? Ratio.of(w[t], sum) : Ratio.ZERO;
                }
                case 1:
                    return Ratio.of(1, 2).times(offered(s, shift(s, m.a, 1), t))
                            .joined(Ratio.of(1, 2).times(offered(s, shift(s, m.a, -1), t)), false);
                case 2:
                    return offered(s, swapped(s, m.a, m.b), t);
                case 3:
                    return toldRatio(m, s, t);
                case 4: {
                    if (w[s] == 0) return s == t ? Ratio.ONE : Ratio.ZERO;
                    List<Integer> line = line(s, m.a);
                    if (!line.contains(t)) return Ratio.ZERO;
                    int[] levelsAmong = new int[7];
                    for (int level = 1; level <= w[s] && level <= w[t]; level++) {
                        int among = 0;
                        for (int u : line) {
                            among += w[u] >= level ? 1 : 0;
                        }
                        levelsAmong[among]++;
                    }
                    Ratio sum = Ratio.ZERO;
                    for (int among = 1; among <= 6; among++) {
                        sum = sum.joined(Ratio.of(levelsAmong[among], (long) among * w[s]), false);
                    }
                    return sum;
                }
                case 5: {
                    Ratio one = Ratio.of(m.p, m.p + m.q).times(ratio(m.a, s, t));
                    return one.joined(Ratio.of(m.q, m.p + m.q).times(ratio(m.b, s, t)), false);
                }
                default: {
                    Ratio sum = Ratio.ZERO;
                    for (int r = 0; r < states; r++) {
                        sum = sum.joined(ratio(m.a, s, r).times(ratio(m.b, r, t)), false);
                    }
                    return sum;
                }
            }
        }

        /** The chance of t, where u is proposed from s and ACCEPTED or not. */
        Ratio offered(int s, int u, int t) {
            Ratio yes = w[s] == 0 || w[u] >= w[s] ? Ratio.ONE : Ratio.of(w[u], w[s]);
            Ratio sum = t == u ? yes : Ratio.ZERO;
            return t == s ? sum.joined(Ratio.ONE.joined(yes, true), false) : sum;
        }

        Ratio toldRatio(SlowMove m, int s, int t) {
            if (s == t) {
                Ratio left = Ratio.ONE;
                for (int u = 0; u < states; u++) {
                    if (u != s) left = left.joined(toldRatio(m, s, u), true);
                }
                return left;
            }
            if (m.sum(s) == 0) return Ratio.ZERO;
            return Ratio.of(m.c[s][t], m.sum(s)).times(toldTaken(m, s, t));
        }

        Ratio toldTaken(SlowMove m, int s, int t) {
            if (w[s] == 0) return Ratio.ONE;
            long x = (long) w[t] * m.c[t][s] * m.sum(s);
            long y = (long) w[s] * m.c[s][t] * m.sum(t);
            return x == 0 ? Ratio.ZERO : x >= y ? Ratio.ONE : Ratio.of(x, y);
        }

        int keeps(int m) {
            for (int t = 0; t < states; t++) {
                Ratio sum = Ratio.ZERO;
                for (int s = 0; s < states; s++) {
                    sum = sum.joined(ratio(m, s, t).times(Ratio.of(w[s], 1)), false);
                }
                if (!sum.equals(Ratio.of(w[t], 1))) return 0;
            }
            return 1;
        }

        int goesBack(int m) {
            for (int s = 0; s < states; s++) {
                for (int t = s + 1; t < states; t++) {
                    Ratio to = ratio(m, s, t).times(Ratio.of(w[s], 1));
                    Ratio fro = ratio(m, t, s).times(Ratio.of(w[t], 1));
                    if (!to.equals(fro)) return 0;
                }
            }
            return 1;
        }

        int reach(int m, int s) {
            TreeSet<Integer> reached = new TreeSet<>(List.of(s));
            for (int i = 0; i < states; i++) {
                TreeSet<Integer> more = new TreeSet<>(reached);
                for (int u : reached) {
                    for (int t = 0; t < states; t++) {
                        if (leads(m, u, t)) more.add(t);
                    }
                }
                reached = more;
            }
            return reached.size();
        }

        boolean leads(int m, int s, int t) {
            int key = (m * 16 + s) * 16 + t;
            Boolean known = led.get(key);
            if (known == null) {
                known = canLead(moves.get(m), s, t);
                led.put(key, known);
            }
            return known;
        }

        boolean canLead(SlowMove m, int s, int t) {
            if (m.kind == 5) return leads(m.a, s, t) || leads(m.b, s, t);
            if (m.kind == 6) {
                for (int r = 0; r < states; r++) {
                    if (leads(m.a, s, r) && leads(m.b, r, t)) return true;
                }
                return false;
            }
            if (m.kind == 3 && s == t) {
                if (m.sum(s) == 0) return true;
                for (int u = 0; u < states; u++) {
                    if (m.c[s][u] > 0 && (u == s || !toldTaken(m, s, u).equals(Ratio.ONE))) return true;
                }
                return false;
            }
            return reckon(m, s, t).above.signum() > 0;
        }

        int draw(long n) {
            x = x.multiply(BigInteger.valueOf(25214903917L)).add(BigInteger.valueOf(11))
                    .mod(BigInteger.ONE.shiftLeft(48));
            return x.divide(BigInteger.ONE.shiftLeft(17)).mod(BigInteger.valueOf(n)).intValueExact();
        }

        int run(int m, int s, int n, long seed) {
            x = BigInteger.valueOf(seed).mod(BigInteger.ONE.shiftLeft(48));
            refused = 0;
            path.clear();
            path.add(s);
            for (int i = 0; i < n; i++) {
                path.add(follow(moves.get(m), path.get(i)));
            }
            return path.get(n);
        }

        int follow(SlowMove m, int s) {
            switch (m.kind) {
                case 0: {
                    int sum = line(s, m.a).stream().mapToInt(u -> w[u]).sum();
                    if (sum == 0) return s;
                    int d = draw(sum), upTo = 0;
                    for (int t : line(s, m.a)) {
                        upTo += w[t];
                        if (upTo > d) return t;
                    }
                    throw new IllegalStateException();
                }
                case 1:
                    return accept(s, shift(s, m.a, draw(2) == 0 ? 1 : -1));
                case 2:
                    return accept(s, swapped(s, m.a, m.b));
                case 3:
                    return followTold(m, s);
                case 4: {
                    if (w[s] == 0) return s;
                    int level = 1 + draw(w[s]);
                    List<Integer> high = line(s, m.a).stream().filter(u -> w[u] >= level).toList();
                    return high.get(draw(high.size()));
                }
                case 5:
                    return follow(moves.get(draw(m.p + m.q) < m.p ? m.a : m.b), s);
                default:
                    return follow(moves.get(m.b), follow(moves.get(m.a), s));
            }
        }

        int accept(int s, int t) {
            if (w[t] >= w[s] || draw(w[s]) < w[t]) return t;
            refused++;
            return s;
        }

        int followTold(SlowMove m, int s) {
            if (m.sum(s) == 0) return s;
            int d = draw(m.sum(s)), t = 0, upTo = m.c[s][0];
            while (upTo <= d) upTo += m.c[s][++t];
            if (w[s] == 0) return t;
            long x = (long) w[t] * m.c[t][s] * m.sum(s);
            long y = (long) w[s] * m.c[s][t] * m.sum(t);
            if (x != 0 && (x >= y || draw(y) < x)) return t;
            refused++;
            return s;
        }
    }
}
