import java.math.BigInteger;
import java.util.ArrayList;
import java.util.HashSet;
import java.util.List;
import java.util.Set;

/** What is told for thought, and the document's thoughts over it and over a Model, by trying all there is. */
final class Thoughts {
    private static final int NONE = -1;

    private List<int[]> order = new ArrayList<>();
    private List<int[]> hands = new ArrayList<>();
    private List<int[]> weights = new ArrayList<>();
    private List<int[]> bags = new ArrayList<>();
    private List<int[]> weighings = new ArrayList<>();
    private List<int[]> prices = new ArrayList<>();
    private int[][] counts = new int[6][4];
    private int[] ledger = new int[24];
    private int years = 0;
    private int wept = 0;

    Thoughts copy() {
        Thoughts t = new Thoughts();
        t.order = new ArrayList<>(order);
        t.hands = new ArrayList<>(hands);
        t.weights = new ArrayList<>(weights);
        t.bags = new ArrayList<>(bags);
        t.weighings = new ArrayList<>(weighings);
        t.prices = new ArrayList<>(prices);
        for (int cause = 0; cause < 6; cause++) {
            t.counts[cause] = counts[cause].clone();
        }
        t.ledger = ledger.clone();
        t.years = years;
        t.wept = wept;
        return t;
    }

    private static boolean in(int v, int least, int most) {
        return v >= least && v <= most;
    }

    private static boolean has(int set, int one) {
        return (set & 1 << one) != 0;
    }

    private static int put(List<int[]> list, int most, boolean canBe, int... line) {
        if (!canBe || list.size() == most) {
            return NONE;
        }
        list.add(line);
        return list.size();
    }

    private static int none(List<int[]> list) {
        list.clear();
        return 0;
    }

    // what is told

    int order(int wet, int weep, int rate) {
        boolean canBe = in(wet, 0, 99) && in(weep, 0, 9) && in(rate, 1, 9);
        return wet == NONE ? none(order) : put(order, 8, canBe, wet, weep, rate);
    }

    int hand(int a, int b) {
        return a == NONE ? none(hands) : put(hands, 16, in(a, 0, 5) && in(b, 0, 5), a, b);
    }

    int weight(int v) {
        return v == NONE ? none(weights) : put(weights, 8, in(v, 1, 40), v);
    }

    int bag(int v) {
        if (v == NONE) {
            weighings.clear();
        }
        return v == NONE ? none(bags) : put(bags, 10, in(v, 1, 99), v);
    }

    int weighed(int set, int v) {
        boolean canBe = set >= 0 && set < Math.pow(2, bags.size()) && in(v, 0, 9999);
        return put(weighings, 6, canBe, set, v);
    }

    boolean count(int cause, int look, int v) {
        if (!in(cause, 0, 5) || !in(look, 0, 3) || !in(v, 0, 999)) {
            return false;
        }
        counts[cause][look] = v;
        return true;
    }

    int salt(int v) {
        return v == NONE ? none(prices) : put(prices, 12, in(v, 0, 99), v);
    }

    boolean ledger(int k, int v) {
        if (!in(k, 0, 23) || !in(v, 0, k < 16 ? 99 : 999)) {
            return false;
        }
        ledger[k] = v;
        return true;
    }

    boolean years(int n, int bits) {
        if (!in(n, 1, 30) || bits < 0 || bits >= Math.pow(2, n)) {
            return false;
        }
        years = n;
        wept = bits;
        return true;
    }

    // what is thought

    static int rate(Model m, int what) {
        int best = 0;
        int most = -1;
        for (int r = 0; r <= 99; r++) {
            int rate = r;
            int sum = m.world.people.stream().filter(p -> p.out == 0).mapToInt(p -> rate * p.wet).sum()
                    - m.world.people.stream().filter(p -> p.out == 0 && p.coin < rate * p.wet).mapToInt(p -> rate * p.wet).sum();
            if (sum > most) {
                best = r;
                most = sum;
            }
        }
        return what == 0 ? best : what == 1 ? most : NONE;
    }

    int ordered(int what) {
        int[] best = {Integer.MAX_VALUE, NONE};
        tryOrders(new int[order.size()], 0, 0, 0, best);
        return what == 0 || what == 1 ? best[what] : NONE;
    }

    /** Orders with the lesser numbers ahead are tried first. */
    private void tryOrders(int[] row, int done, int used, int sum, int[] best) {
        if (done == row.length) {
            if (sum < best[0]) {
                best[0] = sum;
                best[1] = row.length == 0 ? NONE : row[0];
            }
            return;
        }
        for (int i = 0; i < row.length; i++) {
            if (!has(used, i)) {
                row[done] = i;
                int[] one = order.get(i);
                tryOrders(row, done + 1, used | 1 << i, sum + one[2] * (one[0] + done * one[1]), best);
            }
        }
    }

    int hands(int what) {
        int[] ways = new int[7];
        boolean[][] can = new boolean[6][6];
        hands.forEach(h -> can[h[0]][h[1]] = true);
        goByHand(can, 0, 0, 0, ways);
        int most = 6;
        while (ways[most] == 0) {
            most--;
        }
        return what == 0 ? most : what == 1 ? ways[most] : NONE;
    }

    private static void goByHand(boolean[][] can, int child, int taken, int gone, int[] ways) {
        if (child == 6) {
            ways[gone]++;
            return;
        }
        goByHand(can, child + 1, taken, gone, ways);
        for (int b = 0; b < 6; b++) {
            if (can[child][b] && !has(taken, b)) {
                goByHand(can, child + 1, taken | 1 << b, gone + 1, ways);
            }
        }
    }

    int crates(int c, int what) {
        if (!in(c, 1, 99) || !in(what, 0, 1)) {
            return NONE;
        }
        if (what == 0) {
            return weights.stream().anyMatch(w -> w[0] > c) ? NONE : fewest(new int[8], 0, 0, c);
        }
        int most = 0;
        for (int set = 0; set < 1 << weights.size(); set++) {
            int sum = 0;
            for (int i = 0; i < weights.size(); i++) {
                sum += has(set, i) ? weights.get(i)[0] : 0;
            }
            most = Math.max(most, sum <= c ? Integer.bitCount(set) : 0);
        }
        return most;
    }

    private int fewest(int[] crates, int used, int next, int c) {
        if (next == weights.size()) {
            return used;
        }
        int best = 99;
        for (int i = 0; i <= used && i < 8; i++) {
            int w = weights.get(next)[0];
            if (crates[i] + w <= c) {
                crates[i] += w;
                best = Math.min(best, fewest(crates, Math.max(used, i + 1), next + 1, c));
                crates[i] -= w;
            }
        }
        return best;
    }

    int suspects(int what) {
        int set = 0;
        for (int bag = 0; bag < bags.size(); bag++) {
            set |= allows(bag) ? 1 << bag : 0;
        }
        if (what != 1) {
            return what == 0 ? set : NONE;
        }
        if (Integer.bitCount(set) < 2) {
            return NONE;
        }
        for (int greater = 0; greater <= 10; greater++) {
            for (int size = 2; size <= 3; size++) {
                for (int next = 0; next < 1 << bags.size(); next++) {
                    int within = Integer.bitCount(set & next);
                    int without = Integer.bitCount(set) - within;
                    if (Integer.bitCount(next) == size && Math.max(within, without) == greater) {
                        return next;
                    }
                }
            }
        }
        return NONE;
    }

    private boolean allows(int onions) {
        for (int[] w : weighings) {
            int sum = 0;
            for (int bag = 0; bag < bags.size(); bag++) {
                if (has(w[0], bag)) {
                    sum += bags.get(bag)[0] + (bag == onions ? 7 : 0);
                }
            }
            if (sum != w[1]) {
                return false;
            }
        }
        return true;
    }

    /** All that one can be as wet as at each place by so many roads. */
    static int driest(Model m, int from, int to, int w, int what) {
        if (!in(from, 0, 9) || !in(to, 0, 9) || !in(w, 0, 99) || !in(what, 0, 1)) {
            return NONE;
        }
        List<int[]> roads = new ArrayList<>();
        Set<Integer> seen = new HashSet<>();
        m.roads.forEach(r -> {
            if (seen.add(r[0] * 10 + r[1])) {
                roads.add(r);
            }
        });
        boolean[][] here = new boolean[10][100];
        here[from][w] = true;
        int[] best = {NONE, NONE};
        for (int gone = 0; gone <= 12; gone++) {
            for (int wet = 99; wet >= 0; wet--) {
                if (here[to][wet] && (best[0] == NONE || wet < best[0])) {
                    best = new int[] {wet, gone};
                }
            }
            boolean[][] there = new boolean[10][100];
            for (int[] r : roads) {
                for (int wet = 0; wet < 100; wet++) {
                    if (here[r[0]][wet]) {
                        there[r[1]][Math.min(99, Math.max(0, wet - r[2]) + r[3])] = true;
                    }
                }
            }
            here = there;
        }
        return best[what];
    }

    int likely(int cause, int looks) {
        if (!in(cause, -1, 5) || !in(looks, 0, 15)) {
            return NONE;
        }
        BigInteger all = BigInteger.ZERO;
        BigInteger[] q = new BigInteger[6];
        int most = 0;
        for (int c = 0; c < 6; c++) {
            int sum = counts[c][0] + counts[c][1] + counts[c][2] + counts[c][3] + 4;
            q[c] = BigInteger.valueOf(166666);
            for (int look = 0; look < 4; look++) {
                if (has(looks, look)) {
                    q[c] = q[c].multiply(BigInteger.valueOf(counts[c][look] + 1)).divide(BigInteger.valueOf(sum));
                }
            }
            all = all.add(q[c]);
            most = q[c].compareTo(q[most]) > 0 ? c : most;
        }
        if (cause == NONE) {
            return most;
        }
        return all.signum() == 0 ? 0 : q[cause].multiply(BigInteger.valueOf(1000000)).divide(all).intValue();
    }

    int won(int k) {
        return in(k, 1, 3) ? mostFrom(0, k) : NONE;
    }

    private int mostFrom(int day, int k) {
        int most = 0;
        for (int buy = day; k > 0 && buy < prices.size(); buy++) {
            for (int sell = buy + 1; sell < prices.size(); sell++) {
                most = Math.max(most, prices.get(sell)[0] - prices.get(buy)[0] + mostFrom(sell, k - 1));
            }
        }
        return most;
    }

    /** Which number, made less by how much, makes all sums right that were not. */
    int altered(int what) {
        int[] above = new int[8];
        for (int k = 0; k < 16; k++) {
            above[k / 4] += ledger[k];
            above[4 + k % 4] += ledger[k];
        }
        for (int i = 0; i < 8; i++) {
            above[i] -= ledger[16 + i];
        }
        for (int k = 0; k < 16; k++) {
            int much = above[k / 4];
            boolean so = much != 0;
            for (int i = 0; i < 8; i++) {
                so &= above[i] == (i == k / 4 || i == 4 + k % 4 ? much : 0);
            }
            if (so && in(what, 0, 1)) {
                return what == 0 ? k : much;
            }
        }
        return -10000;
    }

    int dry(int what) {
        StringBuilder row = new StringBuilder();
        for (int i = 0; i < years; i++) {
            row.append(has(wept, i) ? '1' : '0');
        }
        int longest = years;
        while (row.indexOf("0".repeat(longest)) < 0) {
            longest--;
        }
        return what == 0 ? longest : what == 1 && longest > 0 ? row.indexOf("0".repeat(longest)) : NONE;
    }

    static int votes(Model m, int gate, int what) {
        if (!in(gate, 0, 3) || !in(what, 0, 1)) {
            return NONE;
        }
        int[] votes = new int[4];
        m.world.guards.forEach(g -> votes[g.gate] += g.soft + 1);
        int all = votes[0] + votes[1] + votes[2] + votes[3];
        int weighs = 0;
        for (int set = 0; set < 16; set++) {
            int sum = 0;
            for (int g = 0; g < 4; g++) {
                sum += has(set, g) ? votes[g] : 0;
            }
            if (!has(set, gate) && sum <= all / 2.0 && sum + votes[gate] > all / 2.0) {
                weighs++;
            }
        }
        return what == 0 ? votes[gate] : weighs;
    }

    /** By the worth of each heap: the least number that is no worth of what it can become. */
    static int game(Model m, int what) {
        List<Model.Guard> guards = m.world.guards;
        int all = 0;
        for (Model.Guard g : guards) {
            all ^= worth(g.soft, g.tired);
        }
        for (int o = 0; o < guards.size(); o++) {
            Model.Guard g = guards.get(o);
            for (int off = 1; off <= Math.min(g.tired, g.soft + 1); off++) {
                if ((all ^ worth(g.soft, g.tired) ^ worth(g.soft, g.tired - off)) == 0) {
                    return what == 0 ? o : what == 1 ? off : NONE;
                }
            }
        }
        return NONE;
    }

    private static int worth(int soft, int tired) {
        int[] worth = new int[tired + 1];
        for (int n = 1; n <= tired; n++) {
            Set<Integer> next = new HashSet<>();
            for (int off = 1; off <= Math.min(n, soft + 1); off++) {
                next.add(worth[n - off]);
            }
            while (next.contains(worth[n])) {
                worth[n]++;
            }
        }
        return worth[tired];
    }
}
