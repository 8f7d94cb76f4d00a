import java.math.BigInteger;
import java.util.Random;

/**
 * Own numbers counted exactly, by other means than the class does and without rounding: twice the table less x is
 * brought to a diagonal by like steps on rows and columns, which keep how many are above, at and below nothing
 * (Sylvester). Fractions are of whole numbers without bound, so that a sum that left a long would be seen too.
 */
public final class ExactTest {
    private static final int NETS_DRAWN = 300, NETS_FOR_BEST = 200;
    private static final int LEAST_X = -40, GREATEST_X = 40;

    private static int wrong = 0;

    public static void main(String[] args) {
        Random draw = new Random(20261117);
        fullNets();
        for (int i = 0; i < NETS_DRAWN; i++) drawnNet(draw);
        for (int i = 0; i < NETS_FOR_BEST; i++) bestOfDrawnNet(draw);
        System.out.println(wrong == 0 ? "own numbers are counted exactly" : wrong + " counts are not as due");
        if (wrong != 0) System.exit(1);
    }

    private static void due(String what, long got, long want) {
        if (got != want) {
            wrong++;
            System.out.println(what + " answered " + got + ", due is " + want);
        }
    }

    /** All of ten, where the numbers within are greatest, by some signings. */
    private static void fullNets() {
        boolean[][] full = new boolean[10][10];
        for (int a = 0; a < 10; a++) {
            for (int b = 0; b < 10; b++) full[a][b] = a != b;
        }
        for (int signs : new int[] {0, 1, 511, 0x55555555, 0x2AAAAAAA, Integer.MAX_VALUE}) compare(full, signs);
    }

    private static void drawnNet(Random draw) {
        int n = 1 + draw.nextInt(10);
        int percent = draw.nextInt(101);
        boolean[][] lines = new boolean[n][n];
        for (int a = 0; a < n; a++) {
            for (int b = a + 1; b < n; b++) lines[a][b] = lines[b][a] = draw.nextInt(100) < percent;
        }
        compare(lines, draw.nextInt(3) == 0 ? 0 : draw.nextInt() >>> 1);
    }

    private static SpreadNets build(boolean[][] lines) {
        SpreadNets x = new SpreadNets();
        x.net(0, lines.length);
        for (int a = 0; a < lines.length; a++) {
            for (int b = a + 1; b < lines.length; b++) {
                if (lines[a][b]) x.line(0, a, b, true);
            }
        }
        return x;
    }

    private static void compare(boolean[][] lines, int signs) {
        SpreadNets x = build(lines);
        String told = tell(lines) + ", signs " + signs;
        int second = GREATEST_X + 1;
        int span = 0;
        for (int halves = LEAST_X; halves <= GREATEST_X; halves++) {
            int[] counts = aboveAndAt(lines, signs, halves);
            due("more, " + told + ", x " + halves, x.more(0, signs, halves), counts[0]);
            due("just, " + told + ", x " + halves, x.just(0, signs, halves), counts[1]);
            int below = lines.length - counts[0] - counts[1];
            if (halves >= 0 && counts[0] > 0 || halves <= 0 && below > 0) span = Math.max(span, Math.abs(halves) + 1);
            int[] plain = aboveAndAt(lines, 0, halves);
            if (halves >= -20 && plain[0] <= 1) second = Math.min(second, halves);
        }
        due("span, " + told, x.span(0, signs), span);
        due("second, " + told, x.second(0), second);
    }

    private static String tell(boolean[][] lines) {
        StringBuilder told = new StringBuilder(lines.length + " knots, lines");
        for (int a = 0; a < lines.length; a++) {
            for (int b = a + 1; b < lines.length; b++) {
                if (lines[a][b]) told.append(' ').append(a).append(b);
            }
        }
        return told.toString();
    }

    /** Nine lines, or fewer, among few knots, so that there are rounds that signs can change. */
    private static void bestOfDrawnNet(Random draw) {
        int n = 4 + draw.nextInt(5);
        boolean[][] lines = new boolean[n][n];
        int wanted = draw.nextInt(3) == 0 ? draw.nextInt(10) : 9;
        int count = 0;
        for (int i = 0; i < 200 && count < wanted; i++) {
            int a = draw.nextInt(n), b = draw.nextInt(n);
            if (a == b || lines[a][b]) continue;
            lines[a][b] = lines[b][a] = true;
            count++;
        }
        due("best, " + tell(lines), build(lines).best(0), bestByTrying(lines, count));
    }

    /** Each signing is asked of a new object, as one object answers 512 calls alone. */
    private static int bestByTrying(boolean[][] lines, int count) {
        int best = 0;
        int least = Integer.MAX_VALUE;
        for (int signs = 0; signs < 1 << count; signs++) {
            int span = build(lines).span(0, signs);
            if (span < least) {
                least = span;
                best = signs;
            }
        }
        return best;
    }

    // ---- exact counts

    private static int[] aboveAndAt(boolean[][] lines, int signs, int halves) {
        Fraction[][] m = shiftedTable(lines, signs, halves);
        int n = m.length;
        int above = 0;
        for (int done = 0; done < n; done++) {
            if (!bringPivot(m, done)) return new int[] {above, n - done};
            if (m[done][done].sign() > 0) above++;
            clear(m, done);
        }
        return new int[] {above, 0};
    }

    private static Fraction[][] shiftedTable(boolean[][] lines, int signs, int halves) {
        int n = lines.length;
        Fraction[][] m = new Fraction[n][n];
        int number = 0;
        for (int a = 0; a < n; a++) {
            m[a][a] = Fraction.of(-halves);
            for (int b = a + 1; b < n; b++) {
                int entry = 0;
                if (lines[a][b]) {
                    entry = number <= 30 && (signs >> number & 1) == 1 ? -2 : 2;
                    number++;
                }
                m[a][b] = m[b][a] = Fraction.of(entry);
            }
        }
        return m;
    }

    /** Puts a number other than 0 at the corner of what is left, if there is one in it. */
    private static boolean bringPivot(Fraction[][] m, int done) {
        for (int i = done; i < m.length; i++) {
            if (m[i][i].sign() != 0) {
                swap(m, done, i);
                return true;
            }
        }
        for (int i = done; i < m.length; i++) {
            for (int j = i + 1; j < m.length; j++) {
                if (m[i][j].sign() == 0) continue;
                add(m, i, j, Fraction.of(1));
                swap(m, done, i);
                return true;
            }
        }
        return false;
    }

    private static void clear(Fraction[][] m, int done) {
        for (int i = done + 1; i < m.length; i++) {
            if (m[i][done].sign() != 0) add(m, i, done, m[i][done].by(m[done][done]).negated());
        }
    }

    /** Adds row j, times a factor, to row i, and then column j to column i likewise. */
    private static void add(Fraction[][] m, int i, int j, Fraction factor) {
        for (int k = 0; k < m.length; k++) m[i][k] = m[i][k].plus(m[j][k].times(factor));
        for (int k = 0; k < m.length; k++) m[k][i] = m[k][i].plus(m[k][j].times(factor));
    }

    private static void swap(Fraction[][] m, int i, int j) {
        Fraction[] row = m[i];
        m[i] = m[j];
        m[j] = row;
        for (Fraction[] each : m) {
            Fraction one = each[i];
            each[i] = each[j];
            each[j] = one;
        }
    }

    private record Fraction(BigInteger above, BigInteger below) {
        static Fraction of(int whole) {
            return new Fraction(BigInteger.valueOf(whole), BigInteger.ONE);
        }

        static Fraction lowest(BigInteger above, BigInteger below) {
            BigInteger common = above.gcd(below).max(BigInteger.ONE);
            BigInteger factor = below.signum() < 0 ? common.negate() : common;
            return new Fraction(above.divide(factor), below.divide(factor));
        }

        int sign() {
            return above.signum();
        }

        Fraction negated() {
            return new Fraction(above.negate(), below);
        }

        Fraction plus(Fraction other) {
            return lowest(above.multiply(other.below).add(other.above.multiply(below)), below.multiply(other.below));
        }

        Fraction times(Fraction other) {
            return lowest(above.multiply(other.above), below.multiply(other.below));
        }

        Fraction by(Fraction other) {
            return lowest(above.multiply(other.below), below.multiply(other.above));
        }
    }
}
