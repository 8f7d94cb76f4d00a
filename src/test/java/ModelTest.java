import java.util.ArrayList;
import java.util.Arrays;
import java.util.List;
import java.util.Random;

/**
 * Long runs of drawn calls, right and wrong ones, against a slow model that follows the document's
 * words by other means than the class does: own numbers by turning tables in doubles, ways apart by
 * the least set of knots that parts two sets, rounds by trying all rows of lines.
 */
public final class ModelTest {
    private static final int BAD = -2, NO = -3, NONE = -1;
    private static final int RUNS = 800, CALLS = 512;
    private static final int[] ODD_NUMBERS = {-1, -2, Integer.MIN_VALUE, Integer.MAX_VALUE, 4, 10, 11, 12, 13, 40, 41, -40, -41, 1023, 1024};

    private static int wrong = 0;

    public static void main(String[] args) {
        Random draw = new Random(20261116);
        for (int run = 0; run < RUNS && wrong < 20; run++) {
            SpreadNets nets = new SpreadNets();
            Model model = new Model();
            int most = run % 3 == 0 ? 5 : run % 3 == 1 ? 7 : 10;
            for (int call = 0; call < CALLS && wrong < 20; call++) {
                oneCall(run, draw, most, nets, model);
            }
        }
        System.out.println(wrong == 0 ? "all answers are the model's" : wrong + " answers are not the model's");
        if (wrong != 0) System.exit(1);
    }

    private static void due(int run, String call, long got, long want) {
        if (got != want) {
            wrong++;
            System.out.println("run " + run + ": " + call + " answered " + got + ", due is " + want);
        }
    }

    /** A number below the bound mostly, at times one that is likely to be wrong. */
    private static int pick(Random draw, int bound) {
        if (draw.nextInt(40) == 0) return ODD_NUMBERS[draw.nextInt(ODD_NUMBERS.length)];
        return draw.nextInt(bound);
    }

    private static void oneCall(int run, Random draw, int most, SpreadNets x, Model m) {
        int net = pick(draw, 4);
        int n = m.isNet(net) ? m.size(net) : 3;
        int a = pick(draw, n), b = pick(draw, n);
        int signs = draw.nextInt(30) == 0 ? draw.nextInt() : draw.nextInt(4) == 0 ? 0 : draw.nextInt() >>> draw.nextInt(31) >>> 1;
        int halves = draw.nextInt(30) == 0 ? pick(draw, 100) : draw.nextInt(40) - 20;
        int t = pick(draw, 13);
        boolean flag = draw.nextBoolean();
        long word = draw.nextInt(20) == 0 ? draw.nextLong() : draw.nextLong() >>> 1 >>> (63 - (m.isNet(net) ? m.lines(net).size() : 5));
        switch (draw.nextInt(34)) {
            case 0: {
                int size = 1 + pick(draw, most);
                if (draw.nextInt(3) == 0) due(run, "net(" + net + ", " + size + ")", x.net(net, size), m.net(net, size));
                break;
            }
            case 1: case 2: case 3: case 4: case 5: case 6: case 7: {
                boolean there = flag || draw.nextInt(3) == 0;
                due(run, "line(" + net + ", " + a + ", " + b + ", " + there + ")", x.line(net, a, b, there), m.line(net, a, b, there));
                break;
            }
            case 8: {
                int size = 1 + pick(draw, most);
                int steps = pick(draw, 1 << Math.max(0, Math.min(5, size / 2)));
                due(run, "ring(" + net + ", " + size + ", " + steps + ")", x.ring(net, size, steps), m.ring(net, size, steps));
                break;
            }
            case 9: {
                int other = pick(draw, 4), to = pick(draw, 4);
                due(run, "product(" + net + ", " + other + ", " + to + ")", x.product(net, other, to), m.product(net, other, to));
                break;
            }
            case 10: {
                int to = pick(draw, 4);
                due(run, "turned(" + net + ", " + to + ")", x.turned(net, to), m.turned(net, to));
                break;
            }
            case 11: case 12: {
                int what = pick(draw, 4);
                due(run, "about(" + net + ", " + what + ")", x.about(net, what), m.about(net, what));
                break;
            }
            case 13: due(run, "near(" + net + ", " + a + ")", x.near(net, a), m.near(net, a)); break;
            case 14: due(run, "number(" + net + ", " + a + ", " + b + ")", x.number(net, a, b), m.number(net, a, b)); break;
            case 15: case 16: {
                int what = pick(draw, 3);
                due(run, "growth(" + net + ", " + flag + ", " + what + ")", x.growth(net, flag, what), m.growth(net, flag, what));
                break;
            }
            case 17: case 18: due(run, "more(" + net + ", " + signs + ", " + halves + ")", x.more(net, signs, halves), m.more(net, signs, halves)); break;
            case 19: case 20: due(run, "just(" + net + ", " + signs + ", " + halves + ")", x.just(net, signs, halves), m.just(net, signs, halves)); break;
            case 21: due(run, "second(" + net + ")", x.second(net), m.second(net)); break;
            case 22: due(run, "span(" + net + ", " + signs + ")", x.span(net, signs), m.span(net, signs)); break;
            case 23: due(run, "best(" + net + ")", x.best(net), m.best(net)); break;
            case 24: due(run, "walks(" + net + ", " + a + ", " + b + ", " + t + ")", x.walks(net, a, b, t), m.walks(net, a, b, t)); break;
            case 25: due(run, "uneven(" + net + ", " + a + ", " + t + ")", x.uneven(net, a, t), m.uneven(net, a, t)); break;
            case 26: case 27: {
                int from = pick(draw, 1 << n), to = pick(draw, 1 << n);
                due(run, "apart(" + net + ", " + from + ", " + to + ")", x.apart(net, from, to), m.apart(net, from, to));
                break;
            }
            case 28: due(run, "distance(" + net + ", " + a + ", " + b + ")", x.distance(net, a, b), m.distance(net, a, b)); break;
            case 29: due(run, "round(" + net + ")", x.round(net), m.round(net)); break;
            case 30: due(run, "odd(" + net + ", " + word + ")", x.odd(net, word), m.odd(net, word)); break;
            case 31: case 32: due(run, "flipped(" + net + ", " + word + ")", x.flipped(net, word), m.flipped(net, word)); break;
            default: due(run, "digest()", x.digest(), m.digest()); break;
        }
    }

    private static final class Model {
        private final boolean[][][] nets = {{{false}}, {{false}}, {{false}}, {{false}}};

        boolean isNet(int net) { return net >= 0 && net <= 3; }
        int size(int net) { return nets[net].length; }
        boolean isKnot(int net, int k) { return isNet(net) && k >= 0 && k < size(net); }

        List<int[]> lines(int net) {
            List<int[]> all = new ArrayList<>();
            for (int a = 0; a < size(net); a++)
                for (int b = a + 1; b < size(net); b++)
                    if (nets[net][a][b]) all.add(new int[] {a, b});
            return all;
        }

        int net(int net, int n) {
            if (!isNet(net) || n < 1 || n > 10) return BAD;
            nets[net] = new boolean[n][n];
            return 1;
        }

        int line(int net, int a, int b, boolean there) {
            if (!isKnot(net, a) || !isKnot(net, b) || a == b) return BAD;
            if (nets[net][a][b] == there) return NO;
            nets[net][a][b] = nets[net][b][a] = there;
            return 1;
        }

        int ring(int net, int n, int steps) {
            if (!isNet(net) || n < 1 || n > 10 || steps < 0 || steps >= 1 << (n / 2)) return BAD;
            boolean[][] made = new boolean[n][n];
            for (int i = 0; i < n; i++)
                for (int j = 0; j < n; j++)
                    for (int s = 1; s <= n / 2; s++)
                        if ((steps & 1 << (s - 1)) != 0 && (Math.floorMod(i + s, n) == j || Math.floorMod(i - s, n) == j)) made[i][j] = true;
            nets[net] = made;
            return lines(net).size();
        }

        int product(int a, int b, int to) {
            if (!isNet(a) || !isNet(b) || !isNet(to)) return BAD;
            int n = size(a) * size(b), w = size(b);
            if (n > 10) return NO;
            boolean[][] made = new boolean[n][n];
            for (int p = 0; p < n; p++)
                for (int q = 0; q < n; q++)
                    made[p][q] = p / w == q / w && nets[b][p % w][q % w] || p % w == q % w && nets[a][p / w][q / w];
            nets[to] = made;
            return n;
        }

        int turned(int from, int to) {
            if (!isNet(from) || !isNet(to)) return BAD;
            int n = size(from);
            boolean[][] made = new boolean[n][n];
            for (int p = 0; p < n; p++)
                for (int q = 0; q < n; q++) made[p][q] = p != q && !nets[from][p][q];
            nets[to] = made;
            return lines(to).size();
        }

        int degree(int net, int k) {
            int d = 0;
            for (boolean there : nets[net][k]) if (there) d++;
            return d;
        }

        int evenDegree(int net) {
            for (int k = 0; k < size(net); k++) if (degree(net, k) != degree(net, 0)) return NONE;
            return degree(net, 0);
        }

        int about(int net, int what) {
            if (!isNet(net) || what < 0 || what > 3) return BAD;
            if (what == 0) return size(net);
            if (what == 1) return lines(net).size();
            if (what == 2) return evenDegree(net);
            int parts = 0;
            for (int a = 0; a < size(net); a++) {
                boolean first = true;
                for (int b = 0; b < a; b++) if (distance(net, a, b) != NONE) first = false;
                if (first) parts++;
            }
            return parts;
        }

        int near(int net, int k) {
            if (!isKnot(net, k)) return BAD;
            int bits = 0;
            for (int b = 0; b < size(net); b++) if (nets[net][k][b]) bits += 1 << b;
            return bits;
        }

        int number(int net, int a, int b) {
            if (!isKnot(net, a) || !isKnot(net, b) || a == b) return BAD;
            List<int[]> all = lines(net);
            for (int i = 0; i < all.size(); i++)
                if (all.get(i)[0] == Math.min(a, b) && all.get(i)[1] == Math.max(a, b)) return i;
            return NONE;
        }

        int growth(int net, boolean lines, int what) {
            if (!isNet(net) || what < 0 || what > 2) return BAD;
            int n = size(net), bestAbove = 0, bestBelow = 0, bestSet = 0;
            if (n == 1) return NONE;
            double least = 1e9;
            for (int set = 1; set < 1 << n; set++) {
                int below = Integer.bitCount(set), crossing = 0, outside = 0;
                if (below > n / 2) continue;
                for (int out = 0; out < n; out++) {
                    if ((set & 1 << out) != 0) continue;
                    int joined = 0;
                    for (int in = 0; in < n; in++) if ((set & 1 << in) != 0 && nets[net][in][out]) joined++;
                    crossing += joined;
                    if (joined > 0) outside++;
                }
                int above = lines ? crossing : outside;
                if ((double) above / below < least - 1e-9) {
                    least = (double) above / below;
                    bestAbove = above;
                    bestBelow = below;
                    bestSet = set;
                }
            }
            return what == 0 ? bestAbove : what == 1 ? bestBelow : bestSet;
        }

        double[] ownNumbers(int net, int signs) {
            double[][] m = new double[size(net)][size(net)];
            List<int[]> all = lines(net);
            for (int i = 0; i < all.size(); i++) {
                int[] l = all.get(i);
                m[l[0]][l[1]] = m[l[1]][l[0]] = i <= 30 && (signs & 1 << i) != 0 ? -1 : 1;
            }
            return jacobi(m);
        }

        static double[] jacobi(double[][] m) {
            int n = m.length;
            for (int sweep = 0; sweep < 40; sweep++) {
                double off = 0;
                for (int p = 0; p < n; p++)
                    for (int q = p + 1; q < n; q++) {
                        off += Math.abs(m[p][q]);
                        if (Math.abs(m[p][q]) > 1e-14) rotate(m, p, q);
                    }
                if (off < 1e-12) break;
            }
            double[] own = new double[n];
            for (int i = 0; i < n; i++) own[i] = m[i][i];
            Arrays.sort(own);
            return own;
        }

        static void rotate(double[][] m, int p, int q) {
            double theta = (m[q][q] - m[p][p]) / (2 * m[p][q]);
            double t = (theta >= 0 ? 1 : -1) / (Math.abs(theta) + Math.sqrt(theta * theta + 1));
            double c = 1 / Math.sqrt(t * t + 1), s = t * c;
            for (int k = 0; k < m.length; k++) {
                double kp = m[k][p], kq = m[k][q];
                m[k][p] = c * kp - s * kq;
                m[k][q] = s * kp + c * kq;
            }
            for (int k = 0; k < m.length; k++) {
                double pk = m[p][k], qk = m[q][k];
                m[p][k] = c * pk - s * qk;
                m[q][k] = s * pk + c * qk;
            }
        }

        static int above(double[] own, int x) {
            int count = 0;
            for (double v : own) if (2 * v > x + 1e-6) count++;
            return count;
        }

        static int spanOf(double[] own) {
            double widest = 0;
            for (double v : own) widest = Math.max(widest, Math.abs(v));
            int x = 0;
            while (2 * widest > x + 1e-6) x++;
            return x;
        }

        int more(int net, int signs, int x) {
            if (!isNet(net) || signs < 0 || x < -40 || x > 40) return BAD;
            return above(ownNumbers(net, signs), x);
        }

        int just(int net, int signs, int x) {
            if (!isNet(net) || signs < 0 || x < -40 || x > 40) return BAD;
            int count = 0;
            for (double v : ownNumbers(net, signs)) if (Math.abs(2 * v - x) < 1e-6) count++;
            return count;
        }

        int second(int net) {
            if (!isNet(net)) return BAD;
            int x = -20;
            while (above(ownNumbers(net, 0), x) > 1) x++;
            return x;
        }

        int span(int net, int signs) {
            if (!isNet(net) || signs < 0) return BAD;
            return spanOf(ownNumbers(net, signs));
        }

        int best(int net) {
            if (!isNet(net)) return BAD;
            int m = lines(net).size(), best = 0, least = 99;
            if (m > 9) return NO;
            for (int signs = 0; signs < 1 << m; signs++) {
                int here = spanOf(ownNumbers(net, signs));
                if (here < least) {
                    least = here;
                    best = signs;
                }
            }
            return best;
        }

        long count(int net, int a, int b, int t) {
            long[] row = new long[size(net)];
            row[a] = 1;
            for (int i = 0; i < t; i++) {
                long[] next = new long[size(net)];
                for (int[] l : lines(net)) {
                    next[l[0]] += row[l[1]];
                    next[l[1]] += row[l[0]];
                }
                row = next;
            }
            return row[b];
        }

        long walks(int net, int a, int b, int t) {
            if (!isKnot(net, a) || !isKnot(net, b) || t < 0 || t > 12) return BAD;
            return count(net, a, b, t);
        }

        long uneven(int net, int a, int t) {
            if (!isKnot(net, a) || t < 0 || t > 12) return BAD;
            if (evenDegree(net) == NONE) return NO;
            long all = Math.round(Math.pow(evenDegree(net), t)), sum = 0;
            for (int b = 0; b < size(net); b++) sum += Math.abs(size(net) * count(net, a, b, t) - all);
            return sum;
        }

        int apart(int net, int from, int to) {
            if (!isNet(net) || from < 0 || to < 0 || from >= 1 << size(net) || to >= 1 << size(net)) return BAD;
            int fewest = 99;
            for (int cut = 0; cut < 1 << size(net); cut++)
                if (Integer.bitCount(cut) < fewest && parts(net, cut, from & ~cut, to & ~cut)) fewest = Integer.bitCount(cut);
            return fewest;
        }

        boolean parts(int net, int cut, int from, int to) {
            int reached = from;
            for (int step = 0; step < size(net); step++)
                for (int[] l : lines(net)) {
                    int ends = 1 << l[0] | 1 << l[1];
                    if ((reached & ends) != 0 && (cut & ends) == 0) reached |= ends;
                }
            return (reached & to) == 0;
        }

        int distance(int net, int a, int b) {
            if (!isKnot(net, a) || !isKnot(net, b)) return BAD;
            for (int t = 0; t < size(net); t++) if (count(net, a, b, t) > 0) return t;
            return NONE;
        }

        int round(int net) {
            if (!isNet(net)) return BAD;
            for (int length = 3; length <= size(net); length++)
                for (int k = 0; k < size(net); k++)
                    if (returns(net, k, k, length, new boolean[10][10])) return length;
            return NONE;
        }

        boolean returns(int net, int home, int at, int left, boolean[][] used) {
            if (left == 0) return at == home;
            for (int to = 0; to < size(net); to++) {
                if (!nets[net][at][to] || used[at][to]) continue;
                used[at][to] = used[to][at] = true;
                if (returns(net, home, to, left - 1, used)) return true;
                used[at][to] = used[to][at] = false;
            }
            return false;
        }

        boolean badWord(int net, long word) {
            return !isNet(net) || word < 0 || word >= 1L << lines(net).size();
        }

        boolean isOdd(int net, long word, int knot) {
            int ones = 0;
            List<int[]> all = lines(net);
            for (int i = 0; i < all.size(); i++)
                if ((word & 1L << i) != 0 && (all.get(i)[0] == knot || all.get(i)[1] == knot)) ones++;
            return ones % 2 == 1;
        }

        int odd(int net, long word) {
            if (badWord(net, word)) return BAD;
            int count = 0;
            for (int k = 0; k < size(net); k++) if (isOdd(net, word, k)) count++;
            return count;
        }

        long flipped(int net, long word) {
            if (badWord(net, word)) return BAD;
            List<int[]> all = lines(net);
            long now = word;
            for (int change = 0; change < 200; change++) {
                int first = -1;
                for (int i = 0; i < all.size() && first < 0; i++)
                    if (isOdd(net, now, all.get(i)[0]) && isOdd(net, now, all.get(i)[1])) first = i;
                if (first < 0) break;
                now ^= 1L << first;
            }
            return now;
        }

        long digest() {
            long h = 241;
            for (int net = 0; net < 4; net++) {
                h = 31 * h + size(net);
                for (int k = 0; k < size(net); k++) h = 31 * h + near(net, k);
            }
            return h;
        }
    }
}
