import java.util.List;

/** Promise 11: root k of those that were found latest, rising, from 0 on. */
public final class Promise11RootTest {
    private static final int READS = 500;

    public static void main(String[] args) {
        for (int n = 1; n <= 110; n++) {
            for (int d = 0; d < n; d++) {
                check(n, d);
            }
        }
        for (int n : Plain.NUMBERS) {
            for (long d : new long[] {0, 1, 4, -1, 9, 36, 2, 1L << 20, Long.MIN_VALUE, Long.MAX_VALUE}) {
                check(n, d);
            }
            check(n, 1234567L * 1234567L);
            check(n, 6000L * 6000L);
        }
        check(3538944, 16384L * 9);
        check(3538944, 65536L * 9);
        check(4193376, 418L * 418);
        checkLatest();
        Due.end();
    }

    private static void check(int n, long d) {
        List<Integer> due = Plain.roots(d, n);
        RootFinder finder = null;
        for (int k = 0; k < due.size(); k++) {
            if (k % READS == 0) {
                finder = Plain.taken(n);
                finder.roots(d);
            }
            Due.is(n + ": root(" + k + ") of " + d, finder.root(k), due.get(k));
        }
        RootFinder last = Plain.taken(n);
        Due.is(n + ": roots(" + d + ")", last.roots(d), due.size());
        int size = due.size();
        for (int k : new int[] {size, size + 1, 4095, 4096, -1, Integer.MIN_VALUE, Integer.MAX_VALUE}) {
            Due.isThrown(n + ": root(" + k + ") of " + d, IndexOutOfBoundsException.class,
                () -> last.root(k));
        }
    }

    private static void checkLatest() {
        RootFinder finder = Plain.taken(840);
        finder.roots(1);
        Due.is("840: root(31) after roots(1)", finder.root(31), 839);
        finder.roots(0);
        Due.is("840: root(1) after roots(0)", finder.root(1), 420);
        Due.isThrown("840: root(2) after roots(0)", IndexOutOfBoundsException.class,
            () -> finder.root(2));
        finder.roots(2);
        Due.isThrown("840: root(0) after roots(2)", IndexOutOfBoundsException.class,
            () -> finder.root(0));
        finder.take(7);
        finder.roots(2);
        Due.is("7: root(0) of 2", finder.root(0), 3);
        Due.is("7: root(1) of 2", finder.root(1), 4);
    }
}
