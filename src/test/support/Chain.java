import java.util.ArrayList;
import java.util.Arrays;
import java.util.List;

/**
 * An object under test, with the calls that it has had: so they can be made again on a new object,
 * and what is there with a call and without it can be compared. Keeps to the document's 512 calls.
 */
final class Chain {
    static final int MOST_CALLS = 512;
    private static final int MOST_TOLD_WRONG = 40;

    private static int wrong = 0;
    private static String sentence = "";

    private final ChainMoves x = new ChainMoves();
    private final List<Call> calls = new ArrayList<>();
    private int made = 0;

    private record Call(String name, long... a) {
        @Override
        public String toString() {
            String list = Arrays.toString(a);
            return name + "(" + list.substring(1, list.length() - 1) + ")";
        }
    }

    /** What the calls from here on are to show, in the document's words. */
    static void sentence(String words) {
        sentence = words;
    }

    static void must(boolean holds, String what) {
        if (!holds) {
            wrong++;
            if (wrong <= MOST_TOLD_WRONG) {
                System.out.println("[" + sentence + "] " + what);
            }
        }
    }

    static void end() {
        System.out.println(wrong == 0 ? "all answers are as due" : wrong + " answers are not as due");
        if (wrong != 0) {
            System.exit(1);
        }
    }

    /** Numbers that are none of low to high: beside it, the least and the most, and some alike in their bits. */
    static long[] outside(long low, long high) {
        long least = Integer.MIN_VALUE;
        long most = Integer.MAX_VALUE;
        long[] some = {low - 1, high + 1, least, least + low, least + high, most, most - 1, -high - 1,
            low + 256, high + 256, low + 65536, high + 65536, low + (1 << 30)};
        return Arrays.stream(some).filter(v -> v < low || v > high).distinct().toArray();
    }

    /** A model of one place with these weights. */
    static Chain line(int... weights) {
        Chain c = new Chain().due(weights.length, "model", weights.length, 0, 0, 0);
        for (int s = 0; s < weights.length; s++) {
            c.due(1, "weight", s, weights[s]);
        }
        return c;
    }

    /** How many calls the object has had. */
    int made() {
        return made;
    }

    long ask(String name, long... a) {
        Call call = new Call(name, a.clone());
        calls.add(call);
        made++;
        must(made <= MOST_CALLS, "the test makes more calls than an object is used for");
        return make(x, call);
    }

    Chain due(long want, String name, long... a) {
        long got = ask(name, a);
        must(got == want, calls.get(calls.size() - 1) + " answered " + got + ", due is " + want);
        return this;
    }

    Chain dueRow(long above, long below, int m, int s, int t) {
        return due(above, "row", m, s, t, 0).due(below, "row", m, s, t, 1);
    }

    /** The call is refused with that answer, and nothing is other than it would be without the call. */
    Chain refuse(long want, String name, long... a) {
        List<Call> without = new ArrayList<>(calls);
        due(want, name, a);
        List<Call> with = new ArrayList<>(calls);
        List<Call> probes = probes(without);
        int room = MOST_CALLS - with.size();
        must(room > 0, "no room for probes behind so many calls");
        long[] before = look(without, probes, Math.max(room, 1));
        long[] behind = look(with, probes, Math.max(room, 1));
        for (int i = 0; i < before.length; i++) {
            must(before[i] == behind[i], with.get(with.size() - 1) + " changed " + probes.get(i) + " from "
                    + before[i] + " to " + behind[i]);
        }
        return this;
    }

    /** Refused with each of these in the place of one of its arguments. */
    Chain refuseEach(long want, int index, long[] values, String name, long... a) {
        for (long v : values) {
            long[] other = a.clone();
            other[index] = v;
            refuse(want, name, other);
            // It is not made again on new objects, so that they have room for the probes.
            calls.remove(calls.size() - 1);
        }
        return this;
    }

    /** The answers to the probes, each new object behind the same calls having room for so many. */
    private static long[] look(List<Call> calls, List<Call> probes, int room) {
        long[] answers = new long[probes.size()];
        for (int from = 0; from < probes.size(); from += room) {
            ChainMoves y = new ChainMoves();
            calls.forEach(call -> make(y, call));
            for (int i = from; i < Math.min(from + room, probes.size()); i++) {
                answers[i] = make(y, probes.get(i));
            }
        }
        return answers;
    }

    /** Calls that show all that can be seen; those that change something come last. */
    private static List<Call> probes(List<Call> calls) {
        ChainMoves y = new ChainMoves();
        calls.forEach(call -> make(y, call));
        int places = y.count(0);
        int states = y.count(1);
        int moves = y.count(2);
        int steps = y.count(3);
        List<Call> probes = new ArrayList<>();
        for (int what = 0; what < 4; what++) {
            probes.add(new Call("count", what));
        }
        probeRun(probes, places, states, steps);
        probeChances(probes, states, moves);
        for (int s = 0; s <= states; s++) {
            for (int place = 0; place <= places; place++) {
                probes.add(new Call("value", s, place));
            }
        }
        probeByChanges(probes, states, moves);
        return probes;
    }

    private static void probeRun(List<Call> probes, int places, int states, int steps) {
        probes.add(new Call("refused"));
        for (int i = 0; i <= steps + 1; i++) {
            probes.add(new Call("trace", i));
            for (int place = 0; place <= places; place++) {
                probes.add(new Call("together", place, i));
            }
        }
        for (int s = 0; s <= states; s++) {
            probes.add(new Call("visits", s));
        }
    }

    private static void probeChances(List<Call> probes, int states, int moves) {
        for (int m = 0; m <= moves; m++) {
            probes.add(new Call("keeps", m));
            probes.add(new Call("goesBack", m));
            for (int s = 0; s < states; s++) {
                probes.add(new Call("reach", m, s));
                for (int t = 0; t < states; t++) {
                    probes.add(new Call("row", m, s, t, 0));
                    probes.add(new Call("row", m, s, t, 1));
                }
            }
        }
    }

    private static void probeByChanges(List<Call> probes, int states, int moves) {
        for (int m = 0; m <= moves; m++) {
            probes.add(new Call("run", m, 0, 40, 20261116L + m));
            probes.add(new Call("refused"));
            probes.add(new Call("trace", 20));
        }
        for (int s = 0; s <= states; s++) {
            probes.add(new Call("weight", s, 1));
        }
        for (int m = 0; m <= moves; m++) {
            probes.add(new Call("odds", m, 1, 1));
            for (int s = 0; s < states; s++) {
                for (int t = 0; t < states; t++) {
                    probes.add(new Call("chance", m, s, t, 0));
                }
            }
        }
        for (int m = 0; m <= 10; m++) {
            probes.add(new Call("move", 3, 0, 0));
        }
        probes.add(new Call("model", 2, 0, 0, 0));
    }

    private static long make(ChainMoves y, Call call) {
        long[] a = call.a;
        int[] i = new int[4];
        for (int k = 0; k < a.length; k++) {
            i[k] = (int) a[k];
        }
        switch (call.name) {
            case "model": return y.model(i[0], i[1], i[2], i[3]);
            case "weight": return y.weight(i[0], i[1]);
            case "state": return y.state(i[0], i[1], i[2], i[3]);
            case "value": return y.value(i[0], i[1]);
            case "move": return y.move(i[0], i[1], i[2]);
            case "odds": return y.odds(i[0], i[1], i[2]);
            case "chance": return y.chance(i[0], i[1], i[2], i[3]);
            case "row": return y.row(i[0], i[1], i[2], i[3]);
            case "keeps": return y.keeps(i[0]);
            case "goesBack": return y.goesBack(i[0]);
            case "reach": return y.reach(i[0], i[1]);
            case "run": return y.run(i[0], i[1], i[2], a[3]);
            case "trace": return y.trace(i[0]);
            case "visits": return y.visits(i[0]);
            case "refused": return y.refused();
            case "together": return y.together(i[0], i[1]);
            case "count": return y.count(i[0]);
            default: throw new IllegalArgumentException(call.name);
        }
    }
}
