/** Promise 7: Kronecker's symbol of a and n. */
public final class Promise07KroneckerTest {
    private static final long[] TOPS = {
        0, 1, -1, 2, -2, 3, 5, -7, 15, 1001, -4194304, 4194304, 4294967297L, -4294967295L,
        Long.MAX_VALUE, Long.MAX_VALUE - 1, Long.MIN_VALUE, Long.MIN_VALUE + 1, Long.MIN_VALUE + 3
    };
    private static final int[] REFUSED = {
        4194305, -4194305, 5000000, -5000000, Integer.MAX_VALUE, Integer.MIN_VALUE
    };

    public static void main(String[] args) {
        for (int n = -130; n <= 130; n++) {
            for (int a = -270; a <= 270; a++) {
                check(a, n);
            }
        }
        for (long a : TOPS) {
            for (int n : Plain.NUMBERS) {
                check(a, n);
                check(a, -n);
            }
            check(a, 0);
            checkRefused(a);
        }
        checkNamedEdges();
        Due.end();
    }

    private static void check(long a, int n) {
        Due.is("kronecker(" + a + ", " + n + ")", new RootFinder().kronecker(a, n),
            Plain.kronecker(a, n));
    }

    private static void checkRefused(long a) {
        for (int n : REFUSED) {
            Due.isThrown("kronecker(" + a + ", " + n + ")", IllegalArgumentException.class,
                () -> new RootFinder().kronecker(a, n));
        }
    }

    private static void checkNamedEdges() {
        RootFinder finder = Plain.taken(360);
        finder.roots(1);
        Due.is("kronecker(0, 0)", finder.kronecker(0, 0), 0);
        Due.is("kronecker(-1, 0)", finder.kronecker(-1, 0), 1);
        Due.is("kronecker(0, 1)", finder.kronecker(0, 1), 1);
        Due.is("kronecker(0, -1)", finder.kronecker(0, -1), 1);
        Due.is("kronecker(-1, -1)", finder.kronecker(-1, -1), -1);
        Due.is("kronecker(3, 4194304)", finder.kronecker(3, 4194304), 1);
        Due.is("kronecker(3, 2097152)", finder.kronecker(3, 2097152), -1);
        Due.is("kronecker(-3, -4194304)", finder.kronecker(-3, -4194304), -1);
        Due.is("count(0) after kronecker", finder.count(0), 360);
        Due.is("count(5) after kronecker", finder.count(5), 16);
    }
}
