/** The boundary cases of promise 5: the first divisor, the last one, and those not there. */
public final class Edge05DivisorTest {
    private static final Class<IndexOutOfBoundsException> NONE = IndexOutOfBoundsException.class;

    public static void main(String[] args) {
        Due.test("1 has the divisor 1 alone", () -> row(1, 1));
        Due.test("divisor -1 is not there", () -> refusedByAll(-1));
        Due.test("the k at both ends of int is not there", () -> {
            refusedByAll(Integer.MIN_VALUE);
            refusedByAll(Integer.MIN_VALUE + 1);
            refusedByAll(Integer.MAX_VALUE);
        });
        Due.test("divisor 360 is never there", () -> {
            refusedByAll(360);
            refusedByAll(361);
            refusedByAll(65536);
        });
        Due.test("a prime N has 1 and itself", () -> {
            row(2, 1, 2);
            row(4194301, 1, 4194301);
        });
        Due.test("the square of a prime has three divisors", () -> {
            row(4, 1, 2, 4);
            row(4157521, 1, 2039, 4157521);
        });
        Due.test("the greatest N has 23 divisors", Edge05DivisorTest::powersOfTwo);
        Due.test("a divisor made of several primes stands in its place", () -> {
            row(12, 1, 2, 3, 4, 6, 12);
            row(4194286, 1, 2, 2097143, 4194286);
            row(30, 1, 2, 3, 5, 6, 10, 15, 30);
        });
        Due.test("no N has more than 360 divisors, and all are there", Edge05DivisorTest::most);
        Due.test("a smaller N leaves none of the divisors before", Edge05DivisorTest::shrinks);
        Due.end();
    }

    private static void row(int n, int... divisors) {
        for (int k = 0; k < divisors.length; k++) {
            int at = k;
            Known.taken(n).answers("divisor(" + k + ")", divisors[k], finder -> finder.divisor(at));
        }
        int beyond = divisors.length;
        Known.taken(n).refuses("divisor(" + beyond + ")", NONE, finder -> finder.divisor(beyond));
    }

    private static void refusedByAll(int k) {
        Known.allRefuse("divisor(" + k + ")", NONE, finder -> finder.divisor(k));
    }

    private static void powersOfTwo() {
        int[] powers = new int[23];
        for (int e = 0; e < powers.length; e++) {
            powers[e] = 1 << e;
        }
        row(4194304, powers);
    }

    private static void most() {
        short[] sizes = Plain.divisorCounts();
        int most = 0;
        for (int n = 1; n <= Plain.GREATEST; n++) {
            most = Math.max(most, sizes[n]);
            if (sizes[n] >= 300) {
                checkEnds(n, sizes[n]);
            }
        }
        Due.is("the most divisors", most, 360);
        checkEnds(3603600, 360);
    }

    private static void checkEnds(int n, int size) {
        RootFinder finder = Plain.taken(n);
        Due.is(n + ": divisor(0)", finder.divisor(0), 1);
        for (int k = 1; k < size; k++) {
            int before = finder.divisor(k - 1);
            finder = k % 200 == 0 ? Plain.taken(n) : finder;
            int at = finder.divisor(k);
            Due.holds(n + ": divisor(" + k + ") is " + at + " behind " + before,
                at > before && n % at == 0);
        }
        RootFinder last = Plain.taken(n);
        Due.is(n + ": divisor(" + (size - 1) + ")", last.divisor(size - 1), n);
        Due.isThrown(n + ": divisor(" + size + ")", NONE, () -> last.divisor(size));
    }

    private static void shrinks() {
        RootFinder finder = Plain.taken(3603600);
        finder.take(5);
        Due.is("divisor(1) of 5 after 3603600", finder.divisor(1), 5);
        Due.isThrown("divisor(2) of 5 after 3603600", NONE, () -> finder.divisor(2));
        finder.take(1);
        Due.is("divisor(0) of 1 after 5", finder.divisor(0), 1);
        Due.isThrown("divisor(1) of 1 after 5", NONE, () -> finder.divisor(1));
    }
}
