/** The boundary cases of promise 3: the first prime, the last one, and those that are not there. */
public final class Edge03PrimeTest {
    private static final Class<IndexOutOfBoundsException> NONE = IndexOutOfBoundsException.class;

    public static void main(String[] args) {
        Due.test("1 has no primes", () -> {
            refuses(1, 0);
            refuses(1, 1);
            Known.fresh().refuses("prime(0)", NONE, finder -> finder.prime(0));
        });
        Due.test("prime -1 is not there", () -> refusedByAll(-1));
        Due.test("the k at both ends of int is not there", () -> {
            refusedByAll(Integer.MIN_VALUE);
            refusedByAll(Integer.MIN_VALUE + 1);
            refusedByAll(Integer.MAX_VALUE);
        });
        Due.test("prime 7 is never there", () -> {
            refusedByAll(7);
            refusedByAll(8);
            refusedByAll(256);
            refusedByAll(65536);
        });
        Due.test("a prime N has itself alone", () -> {
            row(2, 2);
            row(3, 3);
            row(2039, 2039);
            row(2053, 2053);
            row(4194301, 4194301);
        });
        Due.test("the power of a prime has that prime once", () -> {
            row(4194304, 2);
            row(1594323, 3);
            row(4157521, 2039);
        });
        Due.test("there are up to 7 primes, rising", () -> {
            row(510510, 2, 3, 5, 7, 11, 13, 17);
            row(4084080, 2, 3, 5, 7, 11, 13, 17);
        });
        Due.test("a prime above the root of N is the last one", () -> {
            row(4194286, 2, 2097143);
            row(4194279, 3, 227, 2053);
            row(4186067, 2039, 2053);
        });
        Due.test("a smaller N leaves none of the primes before", Edge03PrimeTest::shrinks);
        Due.end();
    }

    private static void row(int n, int... primes) {
        for (int k = 0; k < primes.length; k++) {
            int at = k;
            Known.taken(n).answers("prime(" + k + ")", primes[k], finder -> finder.prime(at));
        }
        refuses(n, primes.length);
    }

    private static void refuses(int n, int k) {
        Known.taken(n).refuses("prime(" + k + ")", NONE, finder -> finder.prime(k));
    }

    private static void refusedByAll(int k) {
        Known.allRefuse("prime(" + k + ")", NONE, finder -> finder.prime(k));
    }

    private static void shrinks() {
        RootFinder finder = Plain.taken(510510);
        finder.take(6);
        Due.is("prime(1) of 6 after 510510", finder.prime(1), 3);
        Due.isThrown("prime(2) of 6 after 510510", NONE, () -> finder.prime(2));
        finder.take(1);
        Due.isThrown("prime(0) of 1 after 6", NONE, () -> finder.prime(0));
    }
}
