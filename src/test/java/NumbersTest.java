import java.math.BigInteger;
import java.util.Arrays;
import java.util.Random;

/** Promises 21 to 23: lengths, calm, year. */
public final class NumbersTest {
    private static final Due DUE = new Due("NumbersTest");
    private static final int NONE = WaterOthers.NONE;
    private static final long LOST_OUTSIDE = -1000000000000000002L;

    public static void main(String[] args) {
        allLengths();
        lengthRefusals();
        calmByTrying();
        calmWhole();
        calmRefusals();
        yearByHand();
        yearByDays();
        yearRefusals();
        DUE.end();
    }

    /** The whole table, by playing every move. */
    private static void allLengths() {
        WaterOthers x = new WaterOthers();
        int[][] first = new int[100][100];
        for (int sum = 0; sum <= 198; sum++) {
            for (int a = Math.max(0, sum - 99); a <= Math.min(99, sum); a++) {
                int b = sum - a;
                first[a][b] = leastWinningTimes(first, a, b);
                DUE.is("lengths(" + a + ", " + b + ", 0)", x.lengths(a, b, 0), first[a][b] == NONE ? 0 : 1);
                DUE.is("lengths(" + a + ", " + b + ", 1)", x.lengths(a, b, 1), first[a][b]);
            }
        }
    }

    private static int leastWinningTimes(int[][] first, int a, int b) {
        if (a == 0 || b == 0) {
            return NONE;
        }
        for (int times = 1; times <= 99; times++) {
            boolean canTakeB = times * b <= a;
            boolean canTakeA = times * a <= b;
            if (canTakeB && first[a - times * b][b] == NONE || canTakeA && first[a][b - times * a] == NONE) {
                return times;
            }
        }
        return NONE;
    }

    private static void lengthRefusals() {
        WaterOthers x = new WaterOthers();
        DUE.refuses(x, "lengths(-1, 0, 0)", () -> x.lengths(-1, 0, 0), WaterOthers.OUTSIDE);
        DUE.refuses(x, "lengths(100, 0, 0)", () -> x.lengths(100, 0, 0), WaterOthers.OUTSIDE);
        DUE.refuses(x, "lengths(0, -1, 0)", () -> x.lengths(0, -1, 0), WaterOthers.OUTSIDE);
        DUE.refuses(x, "lengths(0, 100, 1)", () -> x.lengths(0, 100, 1), WaterOthers.OUTSIDE);
        DUE.refuses(x, "lengths(1, 1, -1)", () -> x.lengths(1, 1, -1), WaterOthers.OUTSIDE);
        DUE.refuses(x, "lengths(1, 1, 2)", () -> x.lengths(1, 1, 2), WaterOthers.OUTSIDE);
    }

    /** Every row of calm beats and others, for all n up to 10, and 15. */
    private static void calmByTrying() {
        for (int n = 0; n <= 15; n = n == 10 ? 15 : n + 1) {
            for (int t = 0; t <= 10; t++) {
                compareCalm(n, t);
            }
        }
    }

    private static void compareCalm(int n, int t) {
        long[] longest = new long[17];
        for (int row = 0; row < 1 << n; row++) {
            long chances = 1;
            int run = 0;
            int most = 0;
            for (int i = 0; i < n; i++) {
                boolean isCalm = (row >> i & 1) == 1;
                chances *= isCalm ? t : 10 - t;
                run = isCalm ? run + 1 : 0;
                most = Math.max(most, run);
            }
            longest[most] += chances;
        }
        BigInteger all = BigInteger.TEN.pow(n);
        BigInteger mean = BigInteger.ZERO;
        for (int k = 0; k <= n; k++) {
            mean = mean.add(BigInteger.valueOf(longest[k]).multiply(BigInteger.valueOf(k)));
        }
        for (int r = 0; r <= 15; r++) {
            BigInteger with = BigInteger.ZERO;
            for (int k = r; k <= 16; k++) {
                with = with.add(BigInteger.valueOf(longest[k]));
            }
            fractionIs(n, t, r, 0, with, all);
            fractionIs(n, t, r, 1, mean, all);
        }
    }

    private static void fractionIs(int n, int t, int r, int what, BigInteger upper, BigInteger lower) {
        WaterOthers x = new WaterOthers();
        BigInteger common = upper.gcd(lower);
        String call = "calm(" + n + ", " + t + ", " + r + ", " + what + ", ";
        DUE.is(call + "0)", x.calm(n, t, r, what, 0), upper.divide(common).longValueExact());
        DUE.is(call + "1)", x.calm(n, t, r, what, 1), lower.divide(common).longValueExact());
    }

    private static void calmWhole() {
        WaterOthers x = new WaterOthers();
        DUE.is("calm(15, 10, 15, 1, 0)", x.calm(15, 10, 15, 1, 0), 15);
        DUE.is("calm(15, 0, 1, 0, 0)", x.calm(15, 0, 1, 0, 0), 0);
        DUE.is("calm(15, 0, 1, 0, 1)", x.calm(15, 0, 1, 0, 1), 1);
        DUE.is("calm(15, 9, 15, 0, 0)", x.calm(15, 9, 15, 0, 0), 205891132094649L);
        DUE.is("calm(15, 9, 15, 0, 1)", x.calm(15, 9, 15, 0, 1), 1000000000000000L);
        DUE.is("calm(3, 5, 15, 0, 0)", x.calm(3, 5, 15, 0, 0), 0);
    }

    private static void calmRefusals() {
        WaterOthers x = new WaterOthers();
        int[][] wrong = {{-1, 5, 1, 0, 0}, {16, 5, 1, 0, 0}, {3, -1, 1, 0, 0}, {3, 11, 1, 0, 0}, {3, 5, -1, 1, 0},
            {3, 5, 16, 1, 1}, {3, 5, 1, -1, 0}, {3, 5, 1, 2, 0}, {3, 5, 1, 0, -1}, {3, 5, 1, 0, 2}};
        for (int[] w : wrong) {
            DUE.is("calm(" + Arrays.toString(w) + ")", x.calm(w[0], w[1], w[2], w[3], w[4]), LOST_OUTSIDE);
        }
    }

    private static void yearByHand() {
        WaterOthers x = new WaterOthers();
        x.walker(2, 5, 1);
        // Seed 0 draws 74, 5624, 28652: C waits, C goes west, a beat.
        DUE.is("year(0, 1, 0)", x.year(0, 1, 0), 5);
        DUE.is("year(0, 2, 0)", x.year(0, 2, 0), 4);
        DUE.is("year(0, 2, 1)", x.year(0, 2, 1), 0);
        DUE.is("year(0, 2, 2)", x.year(0, 2, 2), 0);
    }

    /** The same draws written on the pad, each act being left out if it can not be. */
    private static void yearByDays() {
        Random random = new Random(23);
        for (int i = 0; i < 150; i++) {
            int seed = random.nextInt(10000);
            int m = i < 5 ? 99 : 1 + random.nextInt(99);
            WaterOthers x = filled(random);
            String before = Due.all(x);
            int[] got = {x.year(seed, m, 0), x.year(seed, m, 1), x.year(seed, m, 2)};
            DUE.isTrue("nothing is done by year", before.equals(Due.all(x)));
            long draw = seed;
            for (int k = 0; k < m; k++) {
                draw = (75 * draw + 74) % 65537;
                String letter = String.valueOf((char) ('A' + draw % 6));
                int kind = (int) (draw / 6 % 8);
                Due.write(x, kind == 6 ? "~" : kind == 7 ? "." : letter + "<<>>=*".charAt(kind));
                x.done();
            }
            x.wipe();
            int sum = 0;
            for (int who = 0; who < 6; who++) {
                sum += (x.told(1) >> who & 1) == 1 ? x.told(10 + 10 * who) : 0;
            }
            DUE.is("year(" + seed + ", " + m + ", 0)", got[0], sum);
            DUE.is("year(" + seed + ", " + m + ", 1)", got[1], x.then(2));
            DUE.is("year(" + seed + ", " + m + ", 2)", got[2], x.told(4));
        }
    }

    private static WaterOthers filled(Random random) {
        WaterOthers x = new WaterOthers();
        x.gap(random.nextInt(6));
        for (int who = 0; who < 6; who++) {
            if (random.nextInt(5) > 0) {
                x.walker(who, random.nextInt(20), random.nextInt(6));
            }
        }
        for (int cell = 0; cell < 20; cell++) {
            x.arch(cell, random.nextInt(3) == 0);
        }
        if (random.nextBoolean()) {
            Due.write(x, "~");
            x.done();
        }
        return x;
    }

    private static void yearRefusals() {
        WaterOthers x = new WaterOthers();
        x.walker(0, 7, 0);
        DUE.refuses(x, "year(-1, 1, 0)", () -> x.year(-1, 1, 0), WaterOthers.OUTSIDE);
        DUE.refuses(x, "year(10000, 1, 0)", () -> x.year(10000, 1, 0), WaterOthers.OUTSIDE);
        DUE.refuses(x, "year(0, 0, 0)", () -> x.year(0, 0, 0), WaterOthers.OUTSIDE);
        DUE.refuses(x, "year(0, 100, 0)", () -> x.year(0, 100, 0), WaterOthers.OUTSIDE);
        DUE.refuses(x, "year(0, 1, -1)", () -> x.year(0, 1, -1), WaterOthers.OUTSIDE);
        DUE.refuses(x, "year(0, 1, 3)", () -> x.year(0, 1, 3), WaterOthers.OUTSIDE);
        DUE.is("year(9999, 99, 1) of wind alone", new WaterOthers().year(9999, 99, 1), 0);
        // Wind needs no walker.
        WaterOthers empty = new WaterOthers();
        int winds = 0;
        long draw = 1;
        for (int m = 1; m <= 99; m++) {
            draw = (75 * draw + 74) % 65537;
            winds += draw / 6 % 8 == 6 ? 1 : 0;
            DUE.is("year(1, " + m + ", 2) of nobody", empty.year(1, m, 2), winds % 2);
            DUE.is("year(1, " + m + ", 0) of nobody", empty.year(1, m, 0), 0);
        }
    }
}
