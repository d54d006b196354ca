/** The boundary cases of promise 4: exponents 1 to 22, and those of primes that are not there. */
public final class Edge04ExponentTest {
    private static final Class<IndexOutOfBoundsException> NONE = IndexOutOfBoundsException.class;

    public static void main(String[] args) {
        Due.test("1 has no primes, so no exponents", () -> {
            refuses(1, 0);
            refuses(1, 1);
            Known.fresh().refuses("exponent(0)", NONE, finder -> finder.exponent(0));
        });
        Due.test("exponent -1 is not there", () -> refusedByAll(-1));
        Due.test("the k at both ends of int is not there", () -> {
            refusedByAll(Integer.MIN_VALUE);
            refusedByAll(Integer.MIN_VALUE + 1);
            refusedByAll(Integer.MAX_VALUE);
        });
        Due.test("exponent 7 is never there", () -> {
            refusedByAll(7);
            refusedByAll(8);
            refusedByAll(256);
            refusedByAll(65536);
        });
        Due.test("the smallest exponent is 1", () -> {
            row(2, 1);
            row(4194301, 1);
            row(510510, 1, 1, 1, 1, 1, 1, 1);
            row(4186067, 1, 1);
        });
        Due.test("the greatest exponent is 22", () -> row(4194304, 22));
        Due.test("each exponent up to 22 is told", () -> {
            for (int e = 1; e <= 22; e++) {
                row(1 << e, e);
            }
        });
        Due.test("the greatest exponents of other primes", () -> {
            row(1594323, 13);
            row(3188646, 1, 13);
            row(1953125, 9);
            row(823543, 7);
            row(4157521, 2);
        });
        Due.test("each prime has its own exponent", () -> {
            row(4084080, 4, 1, 1, 1, 1, 1, 1);
            row(3603600, 4, 2, 2, 1, 1, 1);
            row(2097152 / 8 * 9, 18, 2);
        });
        Due.test("a smaller N leaves none of the exponents before", Edge04ExponentTest::shrinks);
        Due.end();
    }

    private static void row(int n, int... exponents) {
        for (int k = 0; k < exponents.length; k++) {
            int at = k;
            Due.is(n + ": exponent(" + k + ")", Plain.taken(n).exponent(at), exponents[k]);
        }
        refuses(n, exponents.length);
    }

    private static void refuses(int n, int k) {
        Known.taken(n).refuses("exponent(" + k + ")", NONE, finder -> finder.exponent(k));
    }

    private static void refusedByAll(int k) {
        Known.allRefuse("exponent(" + k + ")", NONE, finder -> finder.exponent(k));
    }

    private static void shrinks() {
        RootFinder finder = Plain.taken(3603600);
        finder.take(6);
        Due.is("exponent(0) of 6 after 3603600", finder.exponent(0), 1);
        Due.is("exponent(1) of 6 after 3603600", finder.exponent(1), 1);
        Due.isThrown("exponent(2) of 6 after 3603600", NONE, () -> finder.exponent(2));
        finder.take(1);
        Due.isThrown("exponent(0) of 1 after 6", NONE, () -> finder.exponent(0));
    }
}
