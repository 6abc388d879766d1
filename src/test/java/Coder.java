import java.util.ArrayList;
import java.util.Arrays;
import java.util.List;

/** A share as a packer has it: its places, the states that lead through symbols, and its telling. */
final class Coder {
    final int order;
    private final int[] points;
    private final int[] symbols;
    private final int[] bits;
    private final int[] bases;

    /** Order 0 has one symbol, which stands in place of the points. */
    Coder(int order, int... points) {
        int all = 1 << order;
        this.order = order;
        this.points = points;
        symbols = new int[all];
        bits = new int[all];
        bases = new int[all];
        if (order == 0) {
            symbols[0] = points[0];
            return;
        }
        if (Arrays.stream(points).map(Math::abs).sum() != all) {
            throw new IllegalStateException("the masses of a test's share are not 2^L");
        }
        boolean[] taken = new boolean[all];
        int top = all;
        for (int s = 0; s < points.length; s++) {
            if (points[s] == -1) {
                top--;
                symbols[top] = s;
                taken[top] = true;
            }
        }
        int walk = 0;
        for (int s = 0; s < points.length; s++) {
            for (int k = 0; k < points[s]; k++) {
                while (taken[walk % all]) {
                    walk += all / 2 + all / 8 + 3;
                }
                symbols[walk % all] = s;
                taken[walk % all] = true;
            }
        }
        int[] numbers = new int[points.length];
        for (int place = 0; place < all; place++) {
            int s = symbols[place];
            int x = Math.abs(points[s]) + numbers[s];
            numbers[s]++;
            while (x << bits[place] < all) {
                bits[place]++;
            }
            bases[place] = (x << bits[place]) - all;
        }
    }

    int symbolAt(int place) {
        return symbols[place];
    }

    int bitsAt(int place) {
        return bits[place];
    }

    int baseAt(int place) {
        return bases[place];
    }

    /** States, one for each of the symbols, each of which leads to the next. */
    int[] states(int... wanted) {
        int[] found = new int[wanted.length];
        for (int k = wanted.length - 1; k >= 0; k--) {
            found[k] = -1;
            for (int place = 0; place < symbols.length && found[k] < 0; place++) {
                boolean leads = k == wanted.length - 1
                    || bases[place] <= found[k + 1] && found[k + 1] < bases[place] + (1 << bits[place]);
                if (symbols[place] == wanted[k] && leads) {
                    found[k] = place;
                }
            }
            if (found[k] < 0) {
                throw new IllegalStateException("no state leads there");
            }
        }
        return found;
    }

    /** A number and its bits: what is read to go from a state to the next one. */
    void addStep(List<Long> pairs, int from, int to) {
        pairs.add((long) to - bases[from]);
        pairs.add((long) bits[from]);
    }

    void addFirst(List<Long> pairs, int state) {
        pairs.add((long) state);
        pairs.add((long) order);
    }

    /** The share told. */
    byte[] told() {
        List<Long> pairs = new ArrayList<>();
        add(pairs, order - 5, 4);
        int lacks = 1 << order;
        for (int s = 0; lacks > 0; s++) {
            int t = Integer.highestOneBit(lacks + 1);
            int width = Integer.bitCount(t - 1);
            int m = 2 * t - 2 - lacks;
            int u = points[s] + 1;
            if (u < m) {
                add(pairs, u, width);
            } else {
                add(pairs, u < t ? u : u + m, width + 1);
            }
            lacks -= Math.abs(points[s]);
            if (points[s] == 0) {
                int none = 0;
                while (points[s + 1 + none] == 0) {
                    none++;
                }
                s += none;
                for (; none >= 3; none -= 3) {
                    add(pairs, 3, 2);
                }
                add(pairs, none, 2);
            }
        }
        return Make.upwards(pairs.stream().mapToLong(x -> x).toArray());
    }

    static void add(List<Long> pairs, long value, int n) {
        pairs.add(value);
        pairs.add((long) n);
    }

    static byte[] stream(List<Long> pairs) {
        return Make.stream(pairs.stream().mapToLong(x -> x).toArray());
    }

    /** A DESCRIPTION whose weights (the next one not among them) are coded by this share. */
    byte[] description(int... weights) {
        int n = weights.length;
        int[] even = new int[(n + 1) / 2];
        int[] odd = new int[n / 2];
        for (int k = 0; k < n; k++) {
            (k % 2 == 0 ? even : odd)[k / 2] = weights[k];
        }
        int[][] states = {states(even), states(odd)};
        List<Long> pairs = new ArrayList<>();
        addFirst(pairs, states[0][0]);
        addFirst(pairs, states[1][0]);
        for (int k = 0; k < n - 2; k++) {
            int[] turn = states[k % 2];
            addStep(pairs, turn[k / 2], turn[k / 2 + 1]);
        }
        byte[] inside = Make.join(told(), stream(pairs));
        return Make.join(Make.bytes(inside.length), inside);
    }

    /** The STREAM of sequences {literal length, v, match length}, the lengths up to 15 and 34. */
    static byte[] sequences(Coder literal, Coder distance, Coder match, int[]... all) {
        int n = all.length;
        int[] a = new int[n];
        int[] b = new int[n];
        int[] c = new int[n];
        for (int k = 0; k < n; k++) {
            a[k] = all[k][0];
            b[k] = 31 - Integer.numberOfLeadingZeros(all[k][1]);
            c[k] = all[k][2] - 3;
        }
        int[] states = literal.states(a);
        int[] distances = distance.states(b);
        int[] matches = match.states(c);
        List<Long> pairs = new ArrayList<>();
        literal.addFirst(pairs, states[0]);
        distance.addFirst(pairs, distances[0]);
        match.addFirst(pairs, matches[0]);
        for (int k = 0; k < n; k++) {
            add(pairs, all[k][1] - (1L << b[k]), b[k]);
            if (k < n - 1) {
                literal.addStep(pairs, states[k], states[k + 1]);
                match.addStep(pairs, matches[k], matches[k + 1]);
                distance.addStep(pairs, distances[k], distances[k + 1]);
            }
        }
        return stream(pairs);
    }
}
