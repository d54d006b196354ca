/** Promise 8: b, e times taken as a factor, modulo N. */
public final class Promise08PowerTest {
    private static final long[] BASES = {
        0, 1, -1, 2, -2, 3, 10, -17, 4194303, 4194304, -4194305, 4294967296L, Long.MAX_VALUE,
        Long.MAX_VALUE - 1, Long.MIN_VALUE, Long.MIN_VALUE + 1
    };
    private static final long[] EXPONENTS = {
        0, 1, 2, 3, 4, 5, 22, 62, 63, 64, 1000, 2097150, 4294967296L, 4611686018427387904L,
        Long.MAX_VALUE - 1, Long.MAX_VALUE
    };

    public static void main(String[] args) {
        for (int n : Plain.NUMBERS) {
            checkNumber(n);
        }
        for (int n = 1; n <= 20; n++) {
            RootFinder finder = Plain.taken(n);
            for (int b = -10; b <= 10; b++) {
                for (int e = 0; e <= 20; e++) {
                    check(finder, n, b, e);
                }
            }
        }
        Due.is("1: power(0, 0)", new RootFinder().power(0, 0), 0);
        Due.is("2: power(0, 0)", Plain.taken(2).power(0, 0), 1);
        Due.end();
    }

    private static void checkNumber(int n) {
        RootFinder finder = Plain.taken(n);
        for (long b : BASES) {
            for (long e : EXPONENTS) {
                check(finder, n, b, e);
            }
            for (long e : new long[] {-1, -2, Long.MIN_VALUE}) {
                Due.isThrown(n + ": power(" + b + ", " + e + ")", IllegalArgumentException.class,
                    () -> finder.power(b, e));
            }
        }
    }

    private static void check(RootFinder finder, int n, long b, long e) {
        Due.is(n + ": power(" + b + ", " + e + ")", finder.power(b, e), Plain.power(b, e, n));
    }
}
