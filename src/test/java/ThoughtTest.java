import java.util.HashMap;
import java.util.HashSet;
import java.util.Map;
import java.util.Random;
import java.util.Set;
import java.util.TreeSet;

/** What is found in thought, against trying out everything. */
public final class ThoughtTest {
    private static final Random DICE = new Random(7);

    public static void main(String[] args) {
        for (int i = 0; i < 400; i++) {
            rate();
            order();
            hands();
            crates();
            bags();
            driest();
            likely();
            salt();
            ledger();
            years();
            votes();
            game();
        }
        Check.finish();
    }

    private static int upTo(int n) {
        return DICE.nextInt(n);
    }

    private static void rate() {
        TearCustoms x = new TearCustoms();
        int n = upTo(5);
        int[] coin = new int[n];
        int[] wet = new int[n];
        for (int t = 0; t < n; t++) {
            coin[t] = upTo(3) == 0 ? upTo(10000) : upTo(300);
            wet[t] = upTo(4) == 0 ? 0 : upTo(100);
            x.traveller(0, 0, coin[t]);
            x.set(1, t, wet[t]);
        }
        boolean[] out = new boolean[n];
        if (n > 0 && upTo(3) == 0) {
            x.officer(0, 0, 0);
            x.set(1, 0, 0);
            x.weigh(0, 0);
            out[0] = true;
            x.set(0, 0, coin[0]);
            x.set(1, 0, wet[0]);
        }
        int best = 0;
        int most = 0;
        for (int r = 0; r < 100; r++) {
            int sum = 0;
            for (int t = 0; t < n; t++) {
                sum += !out[t] && r * wet[t] <= coin[t] ? r * wet[t] : 0;
            }
            if (sum > most) {
                most = sum;
                best = r;
            }
        }
        Check.same("rate(0)", x.rate(0), best);
        Check.same("rate(1)", x.rate(1), most);
    }

    private static void order() {
        TearCustoms x = new TearCustoms();
        int n = upTo(7);
        int[][] told = new int[n][];
        for (int i = 0; i < n; i++) {
            told[i] = new int[] {upTo(100), upTo(10), 1 + upTo(upTo(2) == 0 ? 2 : 9)};
            Check.same("order", x.order(told[i][0], told[i][1], told[i][2]), i + 1);
        }
        int[] best = {Integer.MAX_VALUE, -1};
        tryOrders(told, new int[n], 0, 0, best);
        Check.same("ordered(0)", x.ordered(0), n == 0 ? 0 : best[0]);
        Check.same("ordered(1)", x.ordered(1), n == 0 ? -1 : best[1]);
    }

    /** Orders come with the lesser numbers ahead, so the first of several is the one. */
    private static void tryOrders(int[][] told, int[] order, int done, int used, int[] best) {
        if (done == told.length) {
            int sum = 0;
            for (int i = 0; i < done; i++) {
                int[] one = told[order[i]];
                sum += one[2] * (one[0] + i * one[1]);
            }
            if (sum < best[0]) {
                best[0] = sum;
                best[1] = done == 0 ? -1 : order[0];
            }
            return;
        }
        for (int i = 0; i < told.length; i++) {
            if ((used >> i & 1) == 0) {
                order[done] = i;
                tryOrders(told, order, done + 1, used | 1 << i, best);
            }
        }
    }

    private static void hands() {
        TearCustoms x = new TearCustoms();
        Set<Integer> couples = new TreeSet<>();
        int n = upTo(17);
        int wide = 1 + upTo(6);
        for (int i = 0; i < n; i++) {
            int a = upTo(wide);
            int b = upTo(6);
            Check.same("hand", x.hand(a, b), i + 1);
            couples.add(a * 6 + b);
        }
        Integer[] list = couples.toArray(new Integer[0]);
        int most = 0;
        int ways = 0;
        for (int set = 0; set < 1 << list.length; set++) {
            int as = 0;
            int bs = 0;
            boolean fine = true;
            for (int i = 0; i < list.length && fine; i++) {
                if ((set >> i & 1) == 1) {
                    int a = 1 << list[i] / 6;
                    int b = 1 << list[i] % 6;
                    fine = (as & a) == 0 && (bs & b) == 0;
                    as |= a;
                    bs |= b;
                }
            }
            int size = Integer.bitCount(set);
            if (fine && size > most) {
                most = size;
                ways = 0;
            }
            if (fine && size == most) {
                ways++;
            }
        }
        Check.same("hands(0)", x.hands(0), most);
        Check.same("hands(1)", x.hands(1), ways);
    }

    private static void crates() {
        TearCustoms x = new TearCustoms();
        int n = upTo(9);
        int[] weights = new int[n];
        int heaviest = 0;
        for (int i = 0; i < n; i++) {
            weights[i] = 1 + upTo(upTo(2) == 0 ? 40 : 15);
            heaviest = Math.max(heaviest, weights[i]);
            Check.same("weight", x.weight(weights[i]), i + 1);
        }
        int c = upTo(4) == 0 ? 1 + upTo(99) : Math.min(99, Math.max(1, heaviest + upTo(30)));
        int fewest = heaviest > c ? -1 : fewest(weights, new int[n], 0, 0, c);
        int fit = 0;
        for (int set = 0; set < 1 << n; set++) {
            int sum = 0;
            for (int i = 0; i < n; i++) {
                sum += (set >> i & 1) == 1 ? weights[i] : 0;
            }
            fit = sum <= c ? Math.max(fit, Integer.bitCount(set)) : fit;
        }
        Check.same("crates(" + c + ", 0)", x.crates(c, 0), fewest);
        Check.same("crates(" + c + ", 1)", x.crates(c, 1), fit);
    }

    private static int fewest(int[] weights, int[] crates, int used, int next, int c) {
        if (next == weights.length) {
            return used;
        }
        int best = Integer.MAX_VALUE;
        for (int i = 0; i <= used && i < crates.length; i++) {
            if (crates[i] + weights[next] <= c) {
                crates[i] += weights[next];
                best = Math.min(best, fewest(weights, crates, Math.max(used, i + 1), next + 1, c));
                crates[i] -= weights[next];
            }
        }
        return best;
    }

    private static void bags() {
        TearCustoms x = new TearCustoms();
        int n = 1 + upTo(10);
        int[] bags = new int[n];
        for (int i = 0; i < n; i++) {
            bags[i] = 1 + upTo(99);
            Check.same("bag", x.bag(bags[i]), i + 1);
        }
        int onions = upTo(n);
        int suspects = (1 << n) - 1;
        for (int i = upTo(4); i > 0; i--) {
            int set = upTo(1 << n);
            int sum = 0;
            for (int b = 0; b < n; b++) {
                sum += (set >> b & 1) == 1 ? bags[b] : 0;
            }
            int v = sum + (upTo(10) == 0 ? upTo(9) : (set >> onions & 1) * 7);
            x.weighed(set, v);
            suspects &= v == sum + 7 ? set : v == sum ? ~set : 0;
        }
        Check.same("suspects(0)", x.suspects(0), suspects);
        int next = -1;
        if (Integer.bitCount(suspects) >= 2) {
            search:
            for (int worst = 0; worst <= 10; worst++) {
                for (int size = 2; size <= 3; size++) {
                    for (int set = 0; set < 1 << n; set++) {
                        int in = Integer.bitCount(set & suspects);
                        if (Integer.bitCount(set) == size && Math.max(in, Integer.bitCount(suspects) - in) == worst) {
                            next = set;
                            break search;
                        }
                    }
                }
            }
        }
        Check.same("suspects(1)", x.suspects(1), next);
    }

    private static void driest() {
        TearCustoms x = new TearCustoms();
        int n = upTo(14);
        int[][] roads = new int[n][];
        Set<Integer> seen = new HashSet<>();
        StringBuilder text = new StringBuilder();
        int places = 2 + upTo(9);
        for (int i = 0; i < n; i++) {
            int a = upTo(places);
            int b = (a + 1 + upTo(places - 1)) % places;
            int dry = upTo(2) == 0 ? upTo(100) : upTo(9);
            int wet = upTo(2) == 0 ? upTo(100) : upTo(9);
            text.append("road ").append(a).append(' ').append(b);
            text.append(" dry ").append(dry).append(" wet ").append(wet).append(';');
            roads[i] = seen.add(a * 10 + b) ? new int[] {a, b, dry, wet} : null;
        }
        Check.same("roads", Check.tell(x, 3, text.toString()), n);
        for (int i = 0; i < 4; i++) {
            int from = upTo(places);
            int to = upTo(places);
            int w = upTo(100);
            boolean[][] here = new boolean[10][100];
            here[from][w] = true;
            int least = 100;
            int fewest = -1;
            for (int gone = 0; gone <= 12; gone++) {
                boolean[][] then = new boolean[10][100];
                for (int v = 99; v >= 0; v--) {
                    if (here[to][v] && v < least) {
                        least = v;
                        fewest = -1;
                    }
                    if (here[to][v] && v == least && fewest == -1) {
                        fewest = gone;
                    }
                    for (int[] road : roads) {
                        if (road != null && here[road[0]][v]) {
                            then[road[1]][Math.min(99, Math.max(0, v - road[2]) + road[3])] = true;
                        }
                    }
                }
                here = then;
            }
            Check.same("driest(0) " + text, x.driest(from, to, w, 0), least == 100 ? -1 : least);
            Check.same("driest(1) " + text, x.driest(from, to, w, 1), fewest);
        }
    }

    private static void likely() {
        TearCustoms x = new TearCustoms();
        int[][] counts = new int[6][4];
        for (int i = upTo(20); i > 0; i--) {
            int cause = upTo(6);
            int look = upTo(4);
            counts[cause][look] = upTo(2) == 0 ? upTo(1000) : upTo(9);
            Check.same("count", x.count(cause, look, counts[cause][look]), true);
        }
        for (int looks = 0; looks < 16; looks++) {
            long[] q = new long[6];
            long all = 0;
            int most = 0;
            for (int c = 0; c < 6; c++) {
                q[c] = 166666;
                long sum = 4L + counts[c][0] + counts[c][1] + counts[c][2] + counts[c][3];
                for (int look = 0; look < 4; look++) {
                    q[c] = (looks >> look & 1) == 1 ? q[c] * (counts[c][look] + 1) / sum : q[c];
                }
                all += q[c];
                most = q[c] > q[most] ? c : most;
            }
            Check.same("likely(NONE)", x.likely(-1, looks), most);
            for (int c = 0; c < 6; c++) {
                Check.same("likely", x.likely(c, looks), all == 0 ? 0 : q[c] * 1000000 / all);
            }
        }
    }

    private static void salt() {
        TearCustoms x = new TearCustoms();
        int n = upTo(13);
        int[] prices = new int[n];
        for (int i = 0; i < n; i++) {
            prices[i] = upTo(100);
            Check.same("salt", x.salt(prices[i]), i + 1);
        }
        for (int k = 1; k <= 3; k++) {
            Check.same("won", x.won(k), most(prices, 0, k));
        }
    }

    private static int most(int[] prices, int from, int k) {
        int best = 0;
        for (int a = from; k > 0 && a < prices.length; a++) {
            for (int b = a + 1; b < prices.length; b++) {
                if (prices[b] > prices[a]) {
                    best = Math.max(best, prices[b] - prices[a] + most(prices, b, k - 1));
                }
            }
        }
        return best;
    }

    private static void ledger() {
        TearCustoms x = new TearCustoms();
        int[][] cells = new int[4][4];
        int[] rows = new int[4];
        int[] columns = new int[4];
        for (int k = 0; k < 16; k++) {
            int v = upTo(100);
            cells[k / 4][k % 4] = v;
            rows[k / 4] += v;
            columns[k % 4] += v;
        }
        for (int i = upTo(3); i > 0; i--) {
            cells[upTo(4)][upTo(4)] = upTo(100);
        }
        if (upTo(5) == 0) {
            rows[upTo(4)] = upTo(1000);
        }
        for (int k = 0; k < 24; k++) {
            int v = k < 16 ? cells[k / 4][k % 4] : k < 20 ? rows[k - 16] : columns[k - 20];
            Check.same("ledger", x.ledger(k, v), true);
        }
        int which = -10000;
        int above = -10000;
        for (int r = 0; r < 4; r++) {
            for (int c = 0; c < 4; c++) {
                for (int by = -999; by <= 999; by++) {
                    cells[r][c] -= by;
                    if (by != 0 && sumsAreRight(cells, rows, columns)) {
                        which = r * 4 + c;
                        above = by;
                    }
                    cells[r][c] += by;
                }
            }
        }
        Check.same("altered(0)", x.altered(0), which);
        Check.same("altered(1)", x.altered(1), above);
    }

    private static boolean sumsAreRight(int[][] cells, int[] rows, int[] columns) {
        for (int i = 0; i < 4; i++) {
            if (cells[i][0] + cells[i][1] + cells[i][2] + cells[i][3] != rows[i]
                    || cells[0][i] + cells[1][i] + cells[2][i] + cells[3][i] != columns[i]) {
                return false;
            }
        }
        return true;
    }

    private static void years() {
        TearCustoms x = new TearCustoms();
        int n = 1 + upTo(30);
        int bits = DICE.nextInt() & DICE.nextInt() & (1 << n) - 1;
        bits = upTo(20) == 0 ? (1 << n) - 1 : bits;
        Check.same("years", x.years(n, bits), true);
        StringBuilder row = new StringBuilder();
        for (int i = 0; i < n; i++) {
            row.append((bits >> i & 1) == 0 ? '0' : '1');
        }
        int longest = 0;
        while (row.indexOf("0".repeat(longest + 1)) >= 0) {
            longest++;
        }
        Check.same("dry(0)", x.dry(0), longest);
        Check.same("dry(1)", x.dry(1), longest == 0 ? -1 : row.indexOf("0".repeat(longest)));
    }

    private static void votes() {
        TearCustoms x = new TearCustoms();
        int[] votes = new int[4];
        int all = 0;
        for (int o = upTo(7); o > 0; o--) {
            int gate = upTo(4);
            int soft = upTo(10);
            x.officer(gate, 0, soft);
            votes[gate] += soft + 1;
            all += soft + 1;
        }
        for (int g = 0; g < 4; g++) {
            int[] o = {votes[(g + 1) % 4], votes[(g + 2) % 4], votes[(g + 3) % 4]};
            int turned = 0;
            for (int set = 0; set < 8; set++) {
                double sum = o[0] * (set & 1) + o[1] * (set >> 1 & 1) + o[2] * (set >> 2);
                turned += sum <= all / 2.0 && sum + votes[g] > all / 2.0 ? 1 : 0;
            }
            Check.same("votes(0)", x.votes(g, 0), votes[g]);
            Check.same("votes(1)", x.votes(g, 1), turned);
        }
    }

    private static void game() {
        TearCustoms x = new TearCustoms();
        int n = upTo(5);
        int[] soft = new int[n];
        int heaps = 0;
        for (int o = 0; o < n; o++) {
            soft[o] = upTo(2) == 0 ? upTo(10) : upTo(3);
            int tired = upTo(10);
            x.officer(upTo(4), 0, soft[o]);
            x.set(3, o, tired);
            heaps |= tired << 4 * o;
        }
        Map<Integer, Boolean> known = new HashMap<>();
        int officer = -1;
        int many = -1;
        for (int o = n - 1; o >= 0; o--) {
            for (int off = soft[o] + 1; off >= 1; off--) {
                if (off <= (heaps >> 4 * o & 15) && !wins(soft, heaps - (off << 4 * o), known)) {
                    officer = o;
                    many = off;
                }
            }
        }
        Check.same("game(0)", x.game(0), officer);
        Check.same("game(1)", x.game(1), many);
    }

    private static boolean wins(int[] soft, int heaps, Map<Integer, Boolean> known) {
        Boolean was = known.get(heaps);
        if (was != null) {
            return was;
        }
        boolean wins = false;
        for (int o = 0; o < soft.length && !wins; o++) {
            for (int off = 1; off <= soft[o] + 1 && off <= (heaps >> 4 * o & 15) && !wins; off++) {
                wins = !wins(soft, heaps - (off << 4 * o), known);
            }
        }
        known.put(heaps, wins);
        return wins;
    }
}
