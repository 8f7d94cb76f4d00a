import java.util.Arrays;

/** Four small nets of knots and lines, and what they tell about how they spread. */
public final class SpreadNets {
    public static final int NONE = -1, BAD = -2, NO = -3;

    private static final int NETS = 4;
    private static final int MOST_KNOTS = 10;
    private static final int MOST_HALVES = 40;
    private static final int SECOND_FROM = -20;
    // No knot has more than nine neighbours, so no own number is beyond 9 either way.
    private static final int WIDEST_HALVES = 2 * (MOST_KNOTS - 1);
    private static final int SIGN_BITS = 31;
    private static final int MOST_LINES_FOR_BEST = 9;
    private static final int MOST_STEPS = 12;
    private static final int DIGEST_START = 241;
    private static final int DIGEST_FACTOR = 31;

    private final Net[] nets = new Net[NETS];
    // New nets are built here first, so that a net may be made out of itself.
    private final Net spare = new Net();
    private final Growth grown = new Growth();
    private final OwnNumbers own = new OwnNumbers();
    private final WalkCounts counts = new WalkCounts();
    private final ApartWays ways = new ApartWays();

    public SpreadNets() {
        for (int i = 0; i < NETS; i++) {
            nets[i] = new Net();
        }
    }

    // ---- nets

    public int net(int net, int n) {
        Net it = netAt(net);
        if (it == null || !isKnotCount(n)) {
            return BAD;
        }
        it.startWith(n);
        return 1;
    }

    public int line(int net, int a, int b, boolean there) {
        Net it = netAt(net);
        if (it == null || !it.hasUnlikeKnots(a, b)) {
            return BAD;
        }
        if (it.joins(a, b) == there) {
            return NO;
        }
        it.change(a, b);
        return 1;
    }

    public int ring(int net, int n, int steps) {
        Net it = netAt(net);
        if (it == null || !isKnotCount(n) || steps < 0 || steps >> (n / 2) != 0) {
            return BAD;
        }
        it.becomeRing(n, steps);
        return it.lineCount();
    }

    public int product(int a, int b, int to) {
        Net first = netAt(a);
        Net other = netAt(b);
        Net goal = netAt(to);
        if (first == null || other == null || goal == null) {
            return BAD;
        }
        if (first.knots * other.knots > MOST_KNOTS) {
            return NO;
        }
        spare.becomeProduct(first, other);
        goal.becomeCopy(spare);
        return goal.knots;
    }

    public int turned(int from, int to) {
        Net source = netAt(from);
        Net goal = netAt(to);
        if (source == null || goal == null) {
            return BAD;
        }
        spare.becomeTurned(source);
        goal.becomeCopy(spare);
        return goal.lineCount();
    }

    public int about(int net, int what) {
        Net it = netAt(net);
        if (it == null) {
            return BAD;
        }
        switch (what) {
            case 0:
                return it.knots;
            case 1:
                return it.lineCount();
            case 2:
                return it.evenDegree();
            case 3:
                return it.partCount();
            default:
                return BAD;
        }
    }

    public int near(int net, int knot) {
        Net it = netAt(net);
        if (it == null || !it.hasKnot(knot)) {
            return BAD;
        }
        return it.beside[knot];
    }

    public int number(int net, int a, int b) {
        Net it = netAt(net);
        if (it == null || !it.hasUnlikeKnots(a, b)) {
            return BAD;
        }
        return it.joins(a, b) ? it.lineNumber(Math.min(a, b), Math.max(a, b)) : NONE;
    }

    // ---- growth, own numbers

    public int growth(int net, boolean lines, int what) {
        Net it = netAt(net);
        if (it == null || what < 0 || what > 2) {
            return BAD;
        }
        if (it.knots == 1) {
            return NONE;
        }
        grown.seek(it, lines);
        switch (what) {
            case 0:
                return grown.above;
            case 1:
                return grown.inside;
            default:
                return grown.set;
        }
    }

    public int more(int net, int signs, int x) {
        Net it = netAt(net);
        if (it == null || signs < 0 || !isHalves(x)) {
            return BAD;
        }
        own.read(it, signs);
        return own.countAbove(x);
    }

    public int just(int net, int signs, int x) {
        Net it = netAt(net);
        if (it == null || signs < 0 || !isHalves(x)) {
            return BAD;
        }
        own.read(it, signs);
        return own.countAt(x);
    }

    public int second(int net) {
        Net it = netAt(net);
        if (it == null) {
            return BAD;
        }
        own.read(it, 0);
        for (int x = SECOND_FROM; x < WIDEST_HALVES; x++) {
            if (own.countAbove(x) <= 1) {
                return x;
            }
        }
        return WIDEST_HALVES;
    }

    public int span(int net, int signs) {
        Net it = netAt(net);
        if (it == null || signs < 0) {
            return BAD;
        }
        own.read(it, signs);
        return own.width();
    }

    public int best(int net) {
        Net it = netAt(net);
        if (it == null) {
            return BAD;
        }
        if (it.lineCount() > MOST_LINES_FOR_BEST) {
            return NO;
        }
        return leastSigning(it);
    }

    // ---- walks, ways

    public long walks(int net, int a, int b, int t) {
        Net it = netAt(net);
        if (it == null || !it.hasKnots(a, b) || !isStepCount(t)) {
            return BAD;
        }
        counts.walk(it, a, t);
        return counts.ending[b];
    }

    public long uneven(int net, int a, int t) {
        Net it = netAt(net);
        if (it == null || !it.hasKnot(a) || !isStepCount(t)) {
            return BAD;
        }
        int degree = it.evenDegree();
        if (degree == NONE) {
            return NO;
        }
        counts.walk(it, a, t);
        return counts.unevenness(it.knots, power(degree, t));
    }

    public int apart(int net, int from, int to) {
        Net it = netAt(net);
        if (it == null || !it.hasSet(from) || !it.hasSet(to)) {
            return BAD;
        }
        return ways.most(it, from, to);
    }

    public int distance(int net, int a, int b) {
        Net it = netAt(net);
        if (it == null || !it.hasKnots(a, b)) {
            return BAD;
        }
        return it.fewestLines(a, b, true);
    }

    public int round(int net) {
        Net it = netAt(net);
        if (it == null) {
            return BAD;
        }
        return it.shortestRound();
    }

    // ---- bits

    public int odd(int net, long word) {
        Net it = netAt(net);
        if (it == null || !it.hasWord(word)) {
            return BAD;
        }
        return Integer.bitCount(it.oddKnots(word));
    }

    public long flipped(int net, long word) {
        Net it = netAt(net);
        if (it == null || !it.hasWord(word)) {
            return BAD;
        }
        return it.flipBack(word);
    }

    public long digest() {
        long h = DIGEST_START;
        for (int i = 0; i < NETS; i++) {
            h = nets[i].addTo(h);
        }
        return h;
    }

    private Net netAt(int net) {
        return net >= 0 && net < NETS ? nets[net] : null;
    }

    private static boolean isKnotCount(int n) {
        return n >= 1 && n <= MOST_KNOTS;
    }

    private static boolean isHalves(int x) {
        return x >= -MOST_HALVES && x <= MOST_HALVES;
    }

    private static boolean isStepCount(int t) {
        return t >= 0 && t <= MOST_STEPS;
    }

    private static long power(int base, int times) {
        long result = 1;
        for (int i = 0; i < times; i++) {
            result *= base;
        }
        return result;
    }

    /**
     * Turning the signs of all lines of one knot keeps the own numbers. By such turns the lines of
     * a spanning forest can all be made plain, in one way only; and if the forest took the lines of
     * highest number first, the signing that results is the least of all that are like it so. That
     * leaves 32 signings at most to be measured.
     */
    private int leastSigning(Net it) {
        int plain = lateForest(it);
        int end = 1 << it.lineCount();
        int least = 0;
        int leastWidth = WIDEST_HALVES + 1;
        for (int signs = 0; signs < end; signs++) {
            if ((signs & plain) != 0) {
                continue;
            }
            own.read(it, signs);
            int width = own.width();
            if (width < leastWidth) {
                leastWidth = width;
                least = signs;
            }
        }
        return least;
    }

    /** The lines (as bits) of the spanning forest that takes lines of highest number first. */
    private int lateForest(Net it) {
        spare.startWith(it.knots);
        int forest = 0;
        int number = it.lineCount();
        for (int a = it.knots - 1; a >= 0; a--) {
            for (int b = it.knots - 1; b > a; b--) {
                if (!it.joins(a, b)) {
                    continue;
                }
                number--;
                if (spare.fewestLines(a, b, true) == NONE) {
                    spare.change(a, b);
                    forest |= 1 << number;
                }
            }
        }
        return forest;
    }

    /** One net: how many knots, and for each its neighbours as bits. */
    private static final class Net {
        int knots = 1;
        final int[] beside = new int[MOST_KNOTS];

        boolean hasKnot(int knot) {
            return knot >= 0 && knot < knots;
        }

        boolean hasKnots(int a, int b) {
            return hasKnot(a) && hasKnot(b);
        }

        /** What the ends of a line must be, whether there is a line or not. */
        boolean hasUnlikeKnots(int a, int b) {
            return hasKnots(a, b) && a != b;
        }

        boolean hasSet(int set) {
            return set >= 0 && set >> knots == 0;
        }

        boolean hasWord(long word) {
            return word >>> lineCount() == 0;
        }

        boolean joins(int a, int b) {
            return (beside[a] >> b & 1) == 1;
        }

        void startWith(int n) {
            knots = n;
            Arrays.fill(beside, 0);
        }

        void join(int a, int b) {
            beside[a] |= 1 << b;
            beside[b] |= 1 << a;
        }

        void change(int a, int b) {
            beside[a] ^= 1 << b;
            beside[b] ^= 1 << a;
        }

        void becomeCopy(Net other) {
            knots = other.knots;
            System.arraycopy(other.beside, 0, beside, 0, MOST_KNOTS);
        }

        void becomeRing(int n, int steps) {
            startWith(n);
            for (int s = 1; s <= n / 2; s++) {
                if ((steps >> (s - 1) & 1) == 0) {
                    continue;
                }
                for (int i = 0; i < n; i++) {
                    join(i, (i + s) % n);
                }
            }
        }

        void becomeProduct(Net first, Net other) {
            int width = other.knots;
            startWith(first.knots * width);
            for (int i = 0; i < first.knots; i++) {
                for (int j = 0; j < width; j++) {
                    int knot = width * i + j;
                    beside[knot] = other.beside[j] << (width * i);
                    for (int k = 0; k < first.knots; k++) {
                        if (first.joins(i, k)) {
                            beside[knot] |= 1 << (width * k + j);
                        }
                    }
                }
            }
        }

        void becomeTurned(Net other) {
            startWith(other.knots);
            int all = (1 << knots) - 1;
            for (int i = 0; i < knots; i++) {
                beside[i] = all & ~other.beside[i] & ~(1 << i);
            }
        }

        int degree(int knot) {
            return Integer.bitCount(beside[knot]);
        }

        int lineCount() {
            int ends = 0;
            for (int i = 0; i < knots; i++) {
                ends += degree(i);
            }
            return ends / 2;
        }

        int evenDegree() {
            for (int i = 1; i < knots; i++) {
                if (degree(i) != degree(0)) {
                    return NONE;
                }
            }
            return degree(0);
        }

        int partCount() {
            int parts = 0;
            int seen = 0;
            for (int i = 0; i < knots; i++) {
                if ((seen >> i & 1) == 0) {
                    parts++;
                    seen |= partOf(i);
                }
            }
            return parts;
        }

        int partOf(int knot) {
            int part = 1 << knot;
            for (int i = 1; i < knots; i++) {
                part |= besideSet(part);
            }
            return part;
        }

        /** All knots that have a neighbour in the set. */
        int besideSet(int set) {
            int all = 0;
            for (int i = 0; i < knots; i++) {
                if ((set >> i & 1) == 1) {
                    all |= beside[i];
                }
            }
            return all;
        }

        /** The number of the line between two knots that are joined. */
        int lineNumber(int lesser, int greater) {
            int before = 0;
            for (int i = 0; i < lesser; i++) {
                before += Integer.bitCount(beside[i] >> i);
            }
            int between = beside[lesser] & ((1 << greater) - 1);
            return before + Integer.bitCount(between >> lesser);
        }

        /** The fewest lines between two knots, where the line that joins just these may be barred. */
        int fewestLines(int from, int to, boolean direct) {
            if (from == to) {
                return 0;
            }
            int seen = 1 << from;
            int edge = direct ? beside[from] : beside[from] & ~(1 << to);
            for (int lines = 1; lines < knots; lines++) {
                if ((edge >> to & 1) == 1) {
                    return lines;
                }
                seen |= edge;
                edge = besideSet(edge) & ~seen;
            }
            return NONE;
        }

        /** Each round is one of its lines and a way around that line. */
        int shortestRound() {
            int shortest = NONE;
            for (int a = 0; a < knots; a++) {
                for (int b = a + 1; b < knots; b++) {
                    int around = joins(a, b) ? fewestLines(a, b, false) : NONE;
                    if (around != NONE && (shortest == NONE || around + 1 < shortest)) {
                        shortest = around + 1;
                    }
                }
            }
            return shortest;
        }

        int oddKnots(long word) {
            int odd = 0;
            int number = 0;
            for (int a = 0; a < knots; a++) {
                for (int b = a + 1; b < knots; b++) {
                    if (!joins(a, b)) {
                        continue;
                    }
                    if ((word >>> number & 1) == 1) {
                        odd ^= 1 << a | 1 << b;
                    }
                    number++;
                }
            }
            return odd;
        }

        /**
         * A change makes its two knots even and no knot odd, so a line that was passed over never
         * comes up again: one pass finds the changes in their order, five at most.
         */
        long flipBack(long word) {
            long result = word;
            int odd = oddKnots(word);
            int number = 0;
            for (int a = 0; a < knots; a++) {
                for (int b = a + 1; b < knots; b++) {
                    if (!joins(a, b)) {
                        continue;
                    }
                    int ends = 1 << a | 1 << b;
                    if ((odd & ends) == ends) {
                        odd ^= ends;
                        result ^= 1L << number;
                    }
                    number++;
                }
            }
            return result;
        }

        long addTo(long h) {
            long sum = DIGEST_FACTOR * h + knots;
            for (int i = 0; i < knots; i++) {
                sum = DIGEST_FACTOR * sum + beside[i];
            }
            return sum;
        }
    }

    /** The set of knots that grows least, by knots or by lines. */
    private static final class Growth {
        int above;
        int inside;
        int set;

        void seek(Net net, boolean lines) {
            // 1 by 0 is more than any growth, so the first set takes its place.
            above = 1;
            inside = 0;
            set = 0;
            int end = 1 << net.knots;
            for (int candidate = 1; candidate < end; candidate++) {
                int size = Integer.bitCount(candidate);
                if (size > net.knots / 2) {
                    continue;
                }
                int gained = lines ? linesOut(net, candidate) : knotsOut(net, candidate);
                if (gained * inside < above * size) {
                    above = gained;
                    inside = size;
                    set = candidate;
                }
            }
        }

        private static int knotsOut(Net net, int set) {
            return Integer.bitCount(net.besideSet(set) & ~set);
        }

        private static int linesOut(Net net, int set) {
            int lines = 0;
            for (int i = 0; i < net.knots; i++) {
                if ((set >> i & 1) == 1) {
                    lines += Integer.bitCount(net.beside[i] & ~set);
                }
            }
            return lines;
        }
    }

    /**
     * Own numbers counted exactly. They are the zeros of a polynomial of whole numbers, all real;
     * so, with the polynomial moved by x, as many are above x as the signs of its coefficients
     * change (Descartes), and as many are just x as there are zeros at its low end. The polynomial
     * is that of twice the table, so that halves become whole numbers. With own numbers of at most
     * 18 halves moved by at most 40 no coefficient goes beyond 59 to the 10th, which a long holds.
     */
    private static final class OwnNumbers {
        private int knots;
        private final int[][] table = new int[MOST_KNOTS][MOST_KNOTS];
        private long[][] rows = new long[MOST_KNOTS][MOST_KNOTS];
        private long[][] nextRows = new long[MOST_KNOTS][MOST_KNOTS];
        private final long[] polynomial = new long[MOST_KNOTS + 1];
        private final long[] moved = new long[MOST_KNOTS + 1];

        void read(Net net, int signs) {
            knots = net.knots;
            fillTable(net, signs);
            findPolynomial();
        }

        int countAbove(int halves) {
            moveBy(halves);
            int changes = 0;
            int sign = 0;
            for (int i = knots; i >= 0; i--) {
                int here = Long.signum(moved[i]);
                if (here != 0 && here == -sign) {
                    changes++;
                }
                sign = here != 0 ? here : sign;
            }
            return changes;
        }

        int countAt(int halves) {
            moveBy(halves);
            int zeros = 0;
            while (zeros < knots && moved[zeros] == 0) {
                zeros++;
            }
            return zeros;
        }

        int countBelow(int halves) {
            return knots - countAbove(halves) - countAt(halves);
        }

        /** The least x, so that all own numbers are from -x halves to x halves. */
        int width() {
            for (int x = 0; x < WIDEST_HALVES; x++) {
                if (countAbove(x) == 0 && countBelow(-x) == 0) {
                    return x;
                }
            }
            return WIDEST_HALVES;
        }

        private void fillTable(Net net, int signs) {
            int number = 0;
            for (int a = 0; a < knots; a++) {
                table[a][a] = 0;
                for (int b = a + 1; b < knots; b++) {
                    int entry = 0;
                    if (net.joins(a, b)) {
                        entry = number < SIGN_BITS && (signs >> number & 1) == 1 ? -1 : 1;
                        number++;
                    }
                    table[a][b] = entry;
                    table[b][a] = entry;
                }
            }
        }

        /** By Faddeev and Le Verrier: each division here leaves nothing over. */
        private void findPolynomial() {
            polynomial[knots] = 1;
            for (int i = 0; i < knots; i++) {
                Arrays.fill(rows[i], 0);
                rows[i][i] = 1;
            }
            for (int k = 1; k <= knots; k++) {
                long trace = multiplyRows();
                long coefficient = -trace / k;
                polynomial[knots - k] = coefficient << k;
                for (int i = 0; i < knots; i++) {
                    nextRows[i][i] += coefficient;
                }
                long[][] done = rows;
                rows = nextRows;
                nextRows = done;
            }
        }

        /** Makes nextRows the table times rows; answers the sum of its diagonal. */
        private long multiplyRows() {
            long trace = 0;
            for (int i = 0; i < knots; i++) {
                Arrays.fill(nextRows[i], 0);
                for (int k = 0; k < knots; k++) {
                    if (table[i][k] != 0) {
                        addRow(nextRows[i], rows[k], table[i][k]);
                    }
                }
                trace += nextRows[i][i];
            }
            return trace;
        }

        private void addRow(long[] sum, long[] row, int factor) {
            for (int j = 0; j < knots; j++) {
                sum[j] += factor * row[j];
            }
        }

        private void moveBy(int halves) {
            System.arraycopy(polynomial, 0, moved, 0, knots + 1);
            for (int i = 0; i < knots; i++) {
                for (int j = knots - 1; j >= i; j--) {
                    moved[j] += halves * moved[j + 1];
                }
            }
        }
    }

    /** How many walks from one knot end at each knot. */
    private static final class WalkCounts {
        long[] ending = new long[MOST_KNOTS];
        private long[] before = new long[MOST_KNOTS];

        void walk(Net net, int from, int steps) {
            Arrays.fill(ending, 0);
            ending[from] = 1;
            for (int i = 0; i < steps; i++) {
                long[] done = before;
                before = ending;
                ending = done;
                step(net);
            }
        }

        long unevenness(int knots, long allWalks) {
            long sum = 0;
            for (int i = 0; i < knots; i++) {
                sum += Math.abs(knots * ending[i] - allWalks);
            }
            return sum;
        }

        private void step(Net net) {
            for (int b = 0; b < net.knots; b++) {
                ending[b] = 0;
                for (int a = 0; a < net.knots; a++) {
                    if (net.joins(a, b)) {
                        ending[b] += before[a];
                    }
                }
            }
        }
    }

    /**
     * The most ways that share no knot, as a flow: each knot is two places, one to enter and one to
     * leave, with one arc between them, so that one way at most goes through. For each place the
     * arcs that are still open, backward ones too, are bits.
     */
    private static final class ApartWays {
        private static final int START = 2 * MOST_KNOTS;
        private static final int END = START + 1;
        private static final int PLACES = END + 1;

        private final int[] open = new int[PLACES];
        private final int[] cameFrom = new int[PLACES];
        private final int[] queue = new int[PLACES];

        int most(Net net, int from, int to) {
            openArcs(net, from, to);
            int found = 0;
            while (found < net.knots && findWay()) {
                takeWay();
                found++;
            }
            return found;
        }

        private void openArcs(Net net, int from, int to) {
            Arrays.fill(open, 0);
            open[START] = from;
            for (int i = 0; i < net.knots; i++) {
                open[i] = 1 << (MOST_KNOTS + i);
                open[MOST_KNOTS + i] = net.beside[i] | (to >> i & 1) << END;
            }
        }

        /** Looks from START on along open arcs, and notes for each place where it came from. */
        private boolean findWay() {
            int seen = 1 << START;
            queue[0] = START;
            int waiting = 1;
            for (int next = 0; next < waiting && next < PLACES; next++) {
                int place = queue[next];
                int fresh = open[place] & ~seen;
                seen |= fresh;
                for (int i = 0; i < PLACES; i++) {
                    if ((fresh >> i & 1) == 1 && waiting < PLACES) {
                        cameFrom[i] = place;
                        queue[waiting] = i;
                        waiting++;
                    }
                }
            }
            return (seen >> END & 1) == 1;
        }

        private void takeWay() {
            int place = END;
            for (int i = 0; i < PLACES && place != START; i++) {
                int previous = cameFrom[place];
                open[previous] &= ~(1 << place);
                open[place] |= 1 << previous;
                place = previous;
            }
        }
    }
}
