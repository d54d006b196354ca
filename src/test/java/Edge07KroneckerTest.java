/** The boundary cases of promise 7: each n that the terms name, and both ends of n and of a. */
public final class Edge07KroneckerTest {
    private static final long LEAST = Long.MIN_VALUE;
    private static final long MOST = Long.MAX_VALUE;
    private static final long[] ANY = {0, 1, -1, 2, 3, LEAST, LEAST + 1, MOST - 1, MOST};

    public static void main(String[] args) {
        Due.test("n = 4194304 is the greatest, n = 4194305 is refused", () -> {
            is(0, 4194304, 0);
            is(1, 4194304, 1);
            is(3, 4194304, 1);
            is(MOST, 4194304, 1);
            is(LEAST, 4194304, 0);
            refuses(4194305);
        });
        Due.test("n = -4194304 is the smallest, n = -4194305 is refused", () -> {
            is(0, -4194304, 0);
            is(3, -4194304, 1);
            is(-3, -4194304, -1);
            is(MOST, -4194304, 1);
            is(LEAST + 1, -4194304, -1);
            refuses(-4194305);
        });
        Due.test("the n at both ends of int is refused", () -> {
            refuses(Integer.MIN_VALUE);
            refuses(Integer.MIN_VALUE + 1);
            refuses(Integer.MAX_VALUE);
        });
        Due.test("what lies farther out is refused", () -> {
            for (int n : new int[] {8388608, -8388608, 16777217, 1 << 30, -(1 << 30)}) {
                refuses(n);
            }
        });
        Due.test("n = 0: 1 for 1 and -1, otherwise 0", Edge07KroneckerTest::ofZero);
        Due.test("n = 1: 1 for every a", () -> {
            for (long a : ANY) {
                is(a, 1, 1);
            }
        });
        Due.test("n = -1: -1 for a below 0, otherwise 1", Edge07KroneckerTest::ofMinusOne);
        Due.test("n = 2: by a modulo 8", Edge07KroneckerTest::ofTwo);
        Due.test("n = -2: that of 2 and that of -1", Edge07KroneckerTest::ofMinusTwo);
        Due.test("the smallest odd prime", Edge07KroneckerTest::ofThree);
        Due.test("the greatest odd prime", Edge07KroneckerTest::ofGreatestPrime);
        Due.test("a prime counts as often as it goes into n", Edge07KroneckerTest::ofPowers);
        Due.test("one prime in common makes it 0", () -> {
            is(17, 510510, 0);
            is(2, 510510, 0);
            is(19, 510510, Plain.kronecker(19, 510510));
            is(-19, -510510, Plain.kronecker(-19, -510510));
        });
        Due.test("the ends of long with n next to both ends", Edge07KroneckerTest::ofEnds);
        Due.test("N and the roots have no part in it, and stay", Edge07KroneckerTest::leavesAll);
        Due.end();
    }

    private static void is(long a, int n, int want) {
        Due.is("kronecker(" + a + ", " + n + ")", new RootFinder().kronecker(a, n), want);
    }

    private static void refuses(int n) {
        for (long a : ANY) {
            Due.isThrown("kronecker(" + a + ", " + n + ")", IllegalArgumentException.class,
                () -> new RootFinder().kronecker(a, n));
        }
        Known.allRefuse("kronecker(1, " + n + ")", IllegalArgumentException.class,
            finder -> finder.kronecker(1, n));
    }

    private static void ofZero() {
        is(1, 0, 1);
        is(-1, 0, 1);
        is(0, 0, 0);
        is(2, 0, 0);
        is(-2, 0, 0);
        is(LEAST, 0, 0);
        is(MOST, 0, 0);
        // Their low 32 bits are those of 1 and of -1.
        is(4294967297L, 0, 0);
        is(4294967295L, 0, 0);
    }

    private static void ofMinusOne() {
        is(-1, -1, -1);
        is(LEAST, -1, -1);
        is(-4294967296L, -1, -1);
        is(0, -1, 1);
        is(1, -1, 1);
        is(MOST, -1, 1);
        is(4294967295L, -1, 1);
        is(2147483648L, -1, 1);
    }

    private static void ofTwo() {
        int[] dues = {0, 1, 0, -1, 0, -1, 0, 1};
        for (int i = 0; i < 8; i++) {
            is(i, 2, dues[i]);
            is(i - 8, 2, dues[i]);
            is(LEAST + i, 2, dues[i]);
            is(MOST - 7 + i, 2, dues[i]);
        }
    }

    private static void ofMinusTwo() {
        int[] dues = {0, 1, 0, -1, 0, -1, 0, 1};
        for (int i = 0; i < 8; i++) {
            is(i, -2, dues[i]);
            is(i - 8, -2, -dues[i]);
            is(LEAST + i, -2, -dues[i]);
            is(MOST - 7 + i, -2, dues[i]);
        }
    }

    private static void ofThree() {
        is(0, 3, 0);
        is(1, 3, 1);
        is(2, 3, -1);
        is(3, 3, 0);
        is(-1, 3, -1);
        is(-2, 3, 1);
        is(-3, 3, 0);
        is(-1, -3, 1);
        is(-2, -3, -1);
        is(MOST, 3, 1);
        is(LEAST, 3, 1);
        is(LEAST, -3, -1);
    }

    /** -1 is like a square modulo 4194301, which is 1 modulo 4; 2 is not: it is 5 modulo 8. */
    private static void ofGreatestPrime() {
        is(0, 4194301, 0);
        is(4194301, 4194301, 0);
        is(-4194301, 4194301, 0);
        is(1, 4194301, 1);
        is(4194300, 4194301, 1);
        is(-1, 4194301, 1);
        is(-1, -4194301, -1);
        is(2, 4194301, -1);
        is(MOST / 4194301 * 4194301, 4194301, 0);
        is(LEAST / 4194301 * 4194301, 4194301, 0);
        for (long a : ANY) {
            is(a, 4194301, Plain.kronecker(a, 4194301));
            is(a, -4194301, Plain.kronecker(a, -4194301));
        }
    }

    private static void ofPowers() {
        for (int e = 1; e <= 22; e++) {
            is(3, 1 << e, e % 2 == 0 ? 1 : -1);
            is(-3, -(1 << e), e % 2 == 0 ? -1 : 1);
        }
        for (int e = 1, n = 3; e <= 13; e++, n *= 3) {
            is(2, n, e % 2 == 0 ? 1 : -1);
            is(-2, -n, -1);
        }
        is(3, 4157521, 1);
        is(2039, 4157521, 0);
    }

    private static void ofEnds() {
        for (int n : new int[] {4194302, 4194303, 4194304, 4194287, 4157521, 3603600, 4084101}) {
            for (long a : ANY) {
                is(a, n, Plain.kronecker(a, n));
                is(a, -n, Plain.kronecker(a, -n));
            }
        }
    }

    private static void leavesAll() {
        Known.allAnswer("kronecker(2, 15)", 1, finder -> finder.kronecker(2, 15));
        Known.allAnswer("kronecker(-1, 0)", 1, finder -> finder.kronecker(-1, 0));
        Known.allAnswer("kronecker(-3, -4194304)", -1, finder -> finder.kronecker(-3, -4194304));
    }
}
