/** Promise 10: how many roots there are, for all d modulo N at once. */
public final class Promise10RootsTest {
    private static final long[] FAR = {
        -1, -2, -9, Plain.GREATEST, 4294967296L, 4294967297L, Long.MAX_VALUE, Long.MAX_VALUE - 7,
        Long.MIN_VALUE, Long.MIN_VALUE + 1
    };

    public static void main(String[] args) {
        for (int n = 1; n <= 700; n++) {
            check(n, 1);
        }
        for (int n : Plain.NUMBERS) {
            check(n, 1 + n / 150);
        }
        checkMost();
        Due.end();
    }

    private static void check(int n, int step) {
        int[] due = Plain.rootCounts(n);
        RootFinder finder = Plain.taken(n);
        for (int d = 0, calls = 0; d < n; d += step, calls++) {
            if (calls == 200) {
                finder = Plain.taken(n);
                calls = 0;
            }
            checkOne(finder, n, d, due[d]);
            long square = (long) d * d % n;
            checkOne(finder, n, square, due[(int) square]);
        }
        finder = Plain.taken(n);
        for (long d : FAR) {
            checkOne(finder, n, d, due[(int) Math.floorMod(d, (long) n)]);
        }
    }

    private static void checkOne(RootFinder finder, int n, long d, int want) {
        Due.is(n + ": roots(" + d + ")", finder.roots(d), want);
    }

    /**
     * 4193376 = 24 * 418^2: no N has more roots, for each prime's share of them is at most the
     * square root of its part of N, but for 2 (times the root of 2) and 3 (times 2 / root of 3).
     */
    private static void checkMost() {
        int n = 4193376;
        int square = 418 * 418;
        RootFinder finder = Plain.taken(n);
        checkOne(finder, n, square, Plain.rootCounts(n)[square]);
        Due.is(n + ": count(5)", finder.count(5), 3344);
    }
}
