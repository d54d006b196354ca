/** The boundary cases of promise 1: a new object has the smallest N and has found nothing. */
public final class Edge01NewObjectTest {
    private static final long[] ANY = {0, 1, -1, 2, Long.MIN_VALUE, Long.MAX_VALUE};

    public static void main(String[] args) {
        Due.test("N is 1", () -> Due.is("new: count(0)", new RootFinder().count(0), 1));
        Due.test("1 has no primes", Edge01NewObjectTest::hasNoPrimes);
        Due.test("1 has one divisor", Edge01NewObjectTest::hasOneDivisor);
        Due.test("of 1 .. 1 all have only 1 in common with 1, and 1 * 1 goes into it", () -> {
            Due.is("new: count(3)", new RootFinder().count(3), 1);
            Due.is("new: count(4)", new RootFinder().count(4), 1);
        });
        Due.test("no roots were looked for", Edge01NewObjectTest::hasNoRoots);
        Due.test("modulo 1 everything is like 0", Edge01NewObjectTest::reckonsModuloOne);
        Due.test("1 has one root of each d", Edge01NewObjectTest::hasOneRootOfEach);
        Due.test("a new object has nothing of another", Edge01NewObjectTest::sharesNothing);
        Due.end();
    }

    private static void hasNoPrimes() {
        RootFinder finder = new RootFinder();
        Due.is("new: count(1)", finder.count(1), 0);
        Due.isThrown("new: prime(0)", IndexOutOfBoundsException.class, () -> finder.prime(0));
        Due.isThrown("new: exponent(0)", IndexOutOfBoundsException.class, () -> finder.exponent(0));
    }

    private static void hasOneDivisor() {
        RootFinder finder = new RootFinder();
        Due.is("new: count(2)", finder.count(2), 1);
        Due.is("new: divisor(0)", finder.divisor(0), 1);
        Due.isThrown("new: divisor(1)", IndexOutOfBoundsException.class, () -> finder.divisor(1));
    }

    private static void hasNoRoots() {
        RootFinder finder = new RootFinder();
        Due.isThrown("new: root(0)", IndexOutOfBoundsException.class, () -> finder.root(0));
        Due.is("new: count(5)", finder.count(5), 0);
    }

    private static void reckonsModuloOne() {
        for (long a : ANY) {
            Due.is("new: power(" + a + ", 0)", new RootFinder().power(a, 0), 0);
            Due.is("new: power(" + a + ", 1)", new RootFinder().power(a, 1), 0);
            Due.is("new: inverse(" + a + ")", new RootFinder().inverse(a), 0);
        }
    }

    private static void hasOneRootOfEach() {
        for (long d : ANY) {
            RootFinder finder = new RootFinder();
            Due.is("new: roots(" + d + ")", finder.roots(d), 1);
            Due.is("new: root(0) of " + d, finder.root(0), 0);
            Due.isThrown("new: root(1) of " + d, IndexOutOfBoundsException.class,
                () -> finder.root(1));
        }
    }

    private static void sharesNothing() {
        Known before = Known.fresh();
        Known used = Known.looked(510510, 1);
        Known after = Known.fresh();
        before.stands("making and using another");
        after.stands("making");
        used.stands("making another");
    }
}
