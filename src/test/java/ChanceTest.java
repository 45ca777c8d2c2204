import java.math.BigInteger;

/** Promises 39, 40 and 43: dumb, sure, rests. */
public final class ChanceTest {
    public static void main(String[] args) {
        dumb();
        sure();
        rests();
        Check.finish();
    }

    private static BigInteger ten(int n) {
        return BigInteger.TEN.pow(n);
    }

    private static void dumb() {
        HeWillNotPlead x = new HeWillNotPlead();
        for (int q = 0; q <= 10; q++) {
            for (int p = 0; p <= 10; p++) {
                for (int n = 0; n <= 12; n++) {
                    dumb(x, q, p, n);
                }
            }
        }
        x.dumb(3, 0, 12);
        Check.row("nothing is learnt", x, 3, 10);
        x.dumb(10, 10, 12);
        Check.row("he is", x, 1, 1);
        x.dumb(0, 9, 12);
        Check.row("he is not: 0 by 1", x, 0, 1);
        Check.due("it can't be so", x.dumb(0, 10, 12), -2);
        Check.row("nothing told", x, 0, 1);
        int[][] none = {{-1, 0, 0}, {11, 0, 0}, {0, -1, 0}, {0, 11, 0}, {0, 0, -1}, {0, 0, 13}, {0, 10, 13}};
        for (int[] a : none) {
            Check.due("dumb(" + a[0] + ", " + a[1] + ", " + a[2] + ")", x.dumb(a[0], a[1], a[2]), -1);
        }
    }

    private static void dumb(HeWillNotPlead x, int q, int p, int n) {
        BigInteger upper = BigInteger.valueOf(q).multiply(ten(n));
        BigInteger mute = BigInteger.valueOf(10 - p).pow(n).multiply(BigInteger.valueOf(10 - q));
        BigInteger lower = upper.add(mute);
        String what = "dumb(" + q + ", " + p + ", " + n + ")";
        if (lower.signum() == 0) {
            Check.due(what, x.dumb(q, p, n), -2);
            return;
        }
        BigInteger common = upper.gcd(lower);
        Check.due(what, x.dumb(q, p, n), 0);
        Check.row(what, x, upper.divide(common).longValueExact(), lower.divide(common).longValueExact());
    }

    private static void sure() {
        HeWillNotPlead x = new HeWillNotPlead();
        for (int q = 0; q <= 10; q++) {
            for (int p = 0; p <= 10; p++) {
                for (int v = 0; v <= 100; v++) {
                    int want = -2;
                    for (int n = 12; n >= 0; n--) {
                        boolean canBe = x.dumb(q, p, n) == 0;
                        want = canBe && 100 * x.row(0) >= v * x.row(1) ? n : want;
                    }
                    Check.due("sure(" + q + ", " + p + ", " + v + ")", x.sure(q, p, v), want);
                }
            }
        }
        Check.due("just so", x.sure(5, 5, 80), 2);
        Check.due("a little more", x.sure(5, 5, 81), 3);
        Check.due("for sure", x.sure(1, 10, 100), 1);
        Check.due("not by 12", x.sure(1, 1, 99), -2);
        int[][] none = {{-1, 0, 0}, {11, 0, 0}, {0, -1, 0}, {0, 11, 0}, {0, 0, -1}, {0, 0, 101}};
        for (int[] a : none) {
            Check.due("sure(" + a[0] + ", " + a[1] + ", " + a[2] + ")", x.sure(a[0], a[1], a[2]), -1);
        }
    }

    private static int[] payoffs(int threat, int holds, int v, int c) {
        boolean keeps = holds >= threat;
        return new int[] {(keeps ? 0 : v) - c * threat, (keeps ? v : 0) - c * holds};
    }

    private static boolean isAtRest(int threat, int holds, int v, int c) {
        int bestThreat = Integer.MIN_VALUE;
        int bestHolds = Integer.MIN_VALUE;
        for (int k = 0; k < 10; k++) {
            bestThreat = Math.max(bestThreat, payoffs(k, holds, v, c)[0]);
            bestHolds = Math.max(bestHolds, payoffs(threat, k, v, c)[1]);
        }
        int[] now = payoffs(threat, holds, v, c);
        return now[0] == bestThreat && now[1] == bestHolds;
    }

    private static void rests() {
        HeWillNotPlead x = new HeWillNotPlead();
        for (int v = 0; v <= 99; v++) {
            for (int c = 0; c <= 9; c++) {
                int count = 0;
                long[] least = {};
                for (int pair = 99; pair >= 0; pair--) {
                    if (isAtRest(pair / 10, pair % 10, v, c)) {
                        count++;
                        least = new long[] {pair / 10, pair % 10};
                    }
                }
                Check.due("rests(" + v + ", " + c + ")", x.rests(v, c), count);
                Check.row("rests(" + v + ", " + c + ")", x, least);
            }
        }
        Check.due("nothing is at stake", x.rests(0, 0), 100);
        Check.row("nothing is at stake", x, 0, 0);
        Check.due("no pair", x.rests(50, 1), 0);
        Check.row("no pair", x);
        int[][] none = {{-1, 0}, {100, 0}, {0, -1}, {0, 10}};
        for (int[] a : none) {
            Check.due("rests(" + a[0] + ", " + a[1] + ")", x.rests(a[0], a[1]), -1);
        }
    }
}
