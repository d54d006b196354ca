/** Promise 9: the x with x * a like 1 modulo N. */
public final class Promise09InverseTest {
    private static final long[] FACTORS = {
        0, 1, -1, 2, 3, -5, 7, 11, 1597, 2584, -832040, 1346269, 2178309, 4194303, 4194304, 4194305,
        4294967297L, Long.MAX_VALUE, Long.MAX_VALUE - 1, Long.MIN_VALUE, Long.MIN_VALUE + 1
    };

    public static void main(String[] args) {
        for (int n = 1; n <= 150; n++) {
            RootFinder finder = Plain.taken(n);
            for (int a = -n - 2; a <= n + 2; a++) {
                check(finder, n, a);
            }
        }
        for (int n : Plain.NUMBERS) {
            checkFactors(n);
        }
        checkFactors(2178309);
        checkFactors(3524578);
        Due.is("1: inverse(0)", new RootFinder().inverse(0), 0);
        Due.end();
    }

    private static void checkFactors(int n) {
        RootFinder finder = Plain.taken(n);
        for (long a : FACTORS) {
            check(finder, n, a);
        }
    }

    private static void check(RootFinder finder, int n, long a) {
        int want = Plain.inverse(a, n);
        if (want < 0) {
            Due.isThrown(n + ": inverse(" + a + ")", IllegalStateException.class,
                () -> finder.inverse(a));
        } else {
            Due.is(n + ": inverse(" + a + ")", finder.inverse(a), want);
        }
    }
}
