import java.util.Arrays;

/** The boundary cases of promise 10: no roots, one, the most there can be, and d at the ends. */
public final class Edge10RootsTest {
    private static final long LEAST = Long.MIN_VALUE;
    private static final long MOST = Long.MAX_VALUE;
    private static final int GREATEST = Plain.GREATEST;
    private static final long[] ENDS = {0, 1, -1, LEAST, LEAST + 1, MOST - 1, MOST};

    public static void main(String[] args) {
        Due.test("modulo 1 every d has one root", () -> {
            for (long d : ENDS) {
                is(1, d, 1);
                Due.is("new: roots(" + d + ")", new RootFinder().roots(d), 1);
            }
        });
        Due.test("modulo 2 every d has one root", () -> {
            for (long d : ENDS) {
                is(2, d, 1);
            }
        });
        Due.test("there may be no roots", () -> {
            is(3, 2, 0);
            is(4, 2, 0);
            is(4, 3, 0);
            is(360, 7, 0);
            is(4194301, 2, 0);
            is(GREATEST, 3, 0);
            is(GREATEST, 2, 0);
            is(GREATEST, -1, 0);
            is(GREATEST, 2097152, 0);
        });
        Due.test("0 has one root if no square goes into N", () -> {
            is(510510, 0, 1);
            is(4194301, 0, 1);
            is(3, 0, 1);
        });
        Due.test("0 has as many roots as the square's root that goes into N", () -> {
            is(4, 0, 2);
            is(GREATEST, 0, 2048);
            is(2097152, 0, 1024);
            is(4157521, 0, 2039);
            is(4190209, 0, 2047);
        });
        Due.test("a prime N has two roots or none but for 0", () -> {
            is(4194301, 1, 2);
            is(4194301, -1, 2);
            is(4194301, 3, 2);
            is(4194301, 4194301, 1);
        });
        Due.test("1 has 1, 1, 2 and 4 roots modulo 1, 2, 4 and the greater powers of 2", () -> {
            is(1, 1, 1);
            is(2, 1, 1);
            is(4, 1, 2);
            for (int n = 8; n <= GREATEST; n *= 2) {
                is(n, 1, 4);
                is(n, 5, 0);
            }
        });
        Due.test("as many primes as there can be", () -> {
            is(510510, 1, 64);
            is(4084080, 1, 256);
            is(3603600, 1, 128);
        });
        Due.test("the most roots there can be", Edge10RootsTest::most);
        Due.test("never more than 4096", Edge10RootsTest::neverMore);
        Due.test("d at both ends of long", Edge10RootsTest::ends);
        Due.test("d is taken modulo N from both sides", Edge10RootsTest::wraps);
        Due.test("each N at the upper end", Edge10RootsTest::upperEnd);
        Due.test("N, primes and divisors stay, and the roots are the latest", () -> {
            for (long d : new long[] {0, 1, 4, 7, 16, LEAST}) {
                Known state = Known.looked(360, d);
                state.stands("roots");
                state.answers("roots(" + d + ") again", Plain.roots(d, 360).size(),
                    finder -> finder.roots(d));
            }
        });
        Due.test("roots of one d leave nothing to the next", Edge10RootsTest::oneByOne);
        Due.end();
    }

    private static void is(int n, long d, int want) {
        Due.is(n + ": roots(" + d + ")", Plain.taken(n).roots(d), want);
    }

    private static void most() {
        is(4193376, 418 * 418, 3344);
        is(4193376, 418 * 418 - 4193376, 3344);
        is(3538944, 65536 * 9, Plain.rootCounts(3538944)[65536 * 9]);
        is(GREATEST, 1048576, 2048);
    }

    /** The most roots of one d modulo n are those modulo its primes' powers, multiplied. */
    private static void neverMore() {
        int[] most = new int[GREATEST + 1];
        Arrays.fill(most, 1);
        for (int p = 2; p <= GREATEST; p++) {
            // No smaller prime has come by here: p is a prime itself.
            if (most[p] == 1) {
                multiply(most, p);
            }
        }
        Due.is("the most roots of one d", most[placeOfMost(most)], 3344);
        for (int n = 1; n <= GREATEST; n++) {
            if (most[n] >= 3100) {
                int[] counts = Plain.rootCounts(n);
                int d = placeOfMost(counts);
                Due.is(n + ": the most roots", counts[d], most[n]);
                is(n, d, most[n]);
            }
        }
    }

    private static void multiply(int[] most, int p) {
        int before = 1;
        for (long power = p; power <= GREATEST; power *= p) {
            int here = power == p && p > 2 ? 2 : mostModulo((int) power);
            for (int n = (int) power; n <= GREATEST; n += (int) power) {
                most[n] = most[n] / before * here;
            }
            before = here;
        }
    }

    private static int mostModulo(int n) {
        int[] counts = Plain.rootCounts(n);
        return counts[placeOfMost(counts)];
    }

    private static int placeOfMost(int[] counts) {
        int place = 0;
        for (int d = 1; d < counts.length; d++) {
            if (counts[d] > counts[place]) {
                place = d;
            }
        }
        return place;
    }

    private static void ends() {
        for (int n : new int[] {3, 8, 360, 4096, 510510, 4157521, 4194301, 4194303, GREATEST}) {
            int[] counts = Plain.rootCounts(n);
            for (long d : ENDS) {
                is(n, d, counts[(int) Math.floorMod(d, (long) n)]);
            }
        }
        is(GREATEST, LEAST, 2048);
        is(GREATEST, LEAST + 1, 4);
        is(GREATEST, MOST, 0);
    }

    private static void wraps() {
        for (int n : new int[] {2, 360, 4194301, GREATEST}) {
            int want = Plain.roots(1, n).size();
            is(n, 1 - (long) n, want);
            is(n, 1 + (long) n, want);
            is(n, 1 + 4294967296L * n, want);
            is(n, 1 - 4294967296L * n, want);
        }
    }

    private static void upperEnd() {
        for (int n = GREATEST - 30; n <= GREATEST; n++) {
            int[] counts = Plain.rootCounts(n);
            for (int d : new int[] {0, 1, 4, 9, n - 1, n - 4, n / 2, placeOfMost(counts)}) {
                is(n, d, counts[d]);
            }
        }
    }

    private static void oneByOne() {
        RootFinder finder = Plain.taken(GREATEST);
        long[] squares = {0, 3, 1, 1048576, 2, 4, 0, 17, -1};
        int[] dues = {2048, 0, 4, 2048, 0, 8, 2048, 4, 0};
        for (int i = 0; i < dues.length; i++) {
            Due.is("roots(" + squares[i] + ")", finder.roots(squares[i]), dues[i]);
        }
    }
}
