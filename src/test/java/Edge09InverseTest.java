/** The boundary cases of promise 9: N = 1, the ends of a, and those a that have no inverse. */
public final class Edge09InverseTest {
    private static final long LEAST = Long.MIN_VALUE;
    private static final long MOST = Long.MAX_VALUE;
    private static final Class<IllegalStateException> NONE = IllegalStateException.class;

    public static void main(String[] args) {
        Due.test("modulo 1 it is 0 for every a", () -> {
            for (long a : new long[] {0, 1, -1, 2, 360, LEAST, LEAST + 1, MOST - 1, MOST}) {
                is(1, a, 0);
                Known.fresh().answers("inverse(" + a + ")", 0, finder -> finder.inverse(a));
            }
        });
        Due.test("0 has none beyond N = 1, and all stays", () -> noneBeyondOne(0));
        Due.test("N and what N goes into have none, and all stays", () -> {
            for (int n : new int[] {2, 3, 360, 510510, 4194301, 4194304}) {
                refuses(n, n);
                refuses(n, -n);
                refuses(n, 2L * n);
                refuses(n, (MOST / n) * n);
                refuses(n, (LEAST / n) * n);
            }
        });
        Due.test("a that shares a divisor with N has none, and all stays", () -> {
            refuses(360, 2);
            refuses(360, 3);
            refuses(360, 5);
            refuses(360, -2);
            refuses(360, 358);
            refuses(510510, 17);
            refuses(510510, 510510 - 17);
            refuses(4157521, 2039);
            refuses(4194304, 2);
            refuses(4194304, 4194302);
            refuses(4194304, 2097152);
        });
        Due.test("the smallest inverse is 1, of 1", () -> {
            for (int n : new int[] {2, 3, 360, 4194301, 4194304}) {
                is(n, 1, 1);
                is(n, n + 1, 1);
                is(n, 1 - n, 1);
            }
        });
        Due.test("the greatest inverse is N - 1, of -1", () -> {
            for (int n : new int[] {2, 3, 360, 4194301, 4194304}) {
                is(n, -1, n - 1);
                is(n, n - 1, n - 1);
                is(n, 2L * n - 1, n - 1);
            }
        });
        Due.test("the smallest long", () -> {
            refuses(2, LEAST);
            refuses(4194304, LEAST);
            is(3, LEAST, 1);
            is(4194301, LEAST, 1708789);
            is(4194304, LEAST + 1, 1);
        });
        Due.test("the greatest long", () -> {
            is(2, MOST, 1);
            is(4194304, MOST, 4194303);
            is(4194301, MOST, Plain.inverse(MOST, 4194301));
            refuses(7, MOST);
            refuses(4194304, MOST - 1);
        });
        Due.test("an a beyond int keeps its high bits", () -> {
            is(5, 4294967297L, 3);
            is(5, 4294967296L, 1);
            is(4194301, 4294967296L, Plain.inverse(4294967296L, 4194301));
            refuses(3, 4294967295L);
        });
        Due.test("modulo the greatest prime all but 0 have one", Edge09InverseTest::ofPrime);
        Due.test("modulo the greatest N all odd a have one, no even a", Edge09InverseTest::ofTwos);
        Due.test("the longest way of Euclid", Edge09InverseTest::ofFibonacci);
        Due.end();
    }

    private static void is(int n, long a, int want) {
        Due.is(n + ": inverse(" + a + ")", Plain.taken(n).inverse(a), want);
    }

    private static void refuses(int n, long a) {
        Known.looked(n, 1).refuses("inverse(" + a + ")", NONE, finder -> finder.inverse(a));
    }

    private static void noneBeyondOne(long a) {
        for (Known state : Known.all()) {
            if (state.finder.count(0) > 1) {
                state.refuses("inverse(" + a + ")", NONE, finder -> finder.inverse(a));
            }
        }
    }

    private static void ofPrime() {
        int p = 4194301;
        for (long a : new long[] {2, 3, 2097150, 2097151, p - 2, p - 3, p + 2}) {
            checkProduct(p, a);
        }
        for (long a = 1; a < p; a += 9973) {
            checkProduct(p, a);
        }
    }

    private static void ofTwos() {
        int n = Plain.GREATEST;
        for (long a = 1; a < n; a += 9974) {
            checkProduct(n, a);
            long even = a + 1;
            Due.isThrown(n + ": inverse(" + even + ")", NONE, () -> Plain.taken(n).inverse(even));
        }
    }

    private static void ofFibonacci() {
        for (int last = 1, n = 2; n <= Plain.GREATEST; ) {
            checkProduct(n, last);
            checkProduct(n, -last);
            int next = n + last;
            last = n;
            n = next;
        }
    }

    private static void checkProduct(int n, long a) {
        long x = Plain.taken(n).inverse(a);
        Due.holds(n + ": inverse(" + a + ") answered " + x,
            x >= 0 && x < n && Math.floorMod(x * a, (long) n) == 1);
    }
}
