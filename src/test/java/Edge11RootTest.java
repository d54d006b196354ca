import java.util.List;

/** The boundary cases of promise 11: the first root, the last one, and those that are not there. */
public final class Edge11RootTest {
    private static final Class<IndexOutOfBoundsException> NONE = IndexOutOfBoundsException.class;

    public static void main(String[] args) {
        Due.test("none is there before any were looked for, and all stays", () -> {
            refuses(Known.fresh(), 0);
            refuses(Known.taken(1), 0);
            refuses(Known.taken(360), 0);
            refuses(Known.taken(4194304), 0);
        });
        Due.test("none is there if none was found, and all stays", () -> {
            refuses(Known.looked(360, 7), 0);
            refuses(Known.looked(4194304, 3), 0);
            refuses(Known.looked(4194301, 2), 0);
        });
        Due.test("root -1 is not there, and all stays", () -> refusedByAll(-1));
        Due.test("the k at both ends of int is not there, and all stays", () -> {
            refusedByAll(Integer.MIN_VALUE);
            refusedByAll(Integer.MIN_VALUE + 1);
            refusedByAll(Integer.MAX_VALUE);
        });
        Due.test("root 4096 is never there, and all stays", () -> {
            refusedByAll(4095);
            refusedByAll(4096);
            refusedByAll(4097);
            refusedByAll(65536);
        });
        Due.test("modulo 1 the one root is 0", () -> {
            row(1, 0, 0);
            row(1, Long.MIN_VALUE, 0);
            row(1, Long.MAX_VALUE, 0);
        });
        Due.test("modulo 2 the one root is d's own like", () -> {
            row(2, 0, 0);
            row(2, 1, 1);
            row(2, -1, 1);
            row(2, Long.MIN_VALUE, 0);
            row(2, Long.MAX_VALUE, 1);
        });
        Due.test("the smallest root is 0, the greatest N - 1", () -> {
            row(3, 0, 0);
            row(3, 1, 1, 2);
            row(4194301, 1, 1, 4194300);
            row(4194304, 1, 1, 2097151, 2097153, 4194303);
        });
        Due.test("roots rise, however they were found", Edge11RootTest::rising);
        Due.test("all of the most roots there can be", Edge11RootTest::most);
        Due.test("the prime whose p - 1 can be halved most often", Edge11RootTest::mostHalvings);
        Due.test("d at both ends of long", Edge11RootTest::ends);
        Due.test("only the latest are there", Edge11RootTest::latest);
        Due.test("other calls leave the roots", Edge11RootTest::stays);
        Due.end();
    }

    private static void row(int n, long d, int... roots) {
        for (int k = 0; k < roots.length; k++) {
            int at = k;
            Known.looked(n, d).answers("root(" + k + ")", roots[k], finder -> finder.root(at));
        }
        refuses(Known.looked(n, d), roots.length);
    }

    private static void refuses(Known state, int k) {
        state.refuses("root(" + k + ")", NONE, finder -> finder.root(k));
    }

    private static void refusedByAll(int k) {
        Known.allRefuse("root(" + k + ")", NONE, finder -> finder.root(k));
    }

    private static void rising() {
        row(15, 1, 1, 4, 11, 14);
        row(15, 4, 2, 7, 8, 13);
        row(24, 1, 1, 5, 7, 11, 13, 17, 19, 23);
        row(9, 0, 0, 3, 6);
        row(12, 4, 2, 4, 8, 10);
        row(27, 9, 3, 6, 12, 15, 21, 24);
        Known.looked(510510, 1).stands("roots(1)");
        Known.looked(510510, 4).stands("roots(4)");
    }

    private static void most() {
        whole(4193376, 418 * 418, 3344);
        whole(4194304, 0, 2048);
        whole(4194304, 1048576, 2048);
        whole(4157521, 0, 2039);
    }

    /** An object answers for 512 calls alone, so that it takes several to read all roots. */
    private static void whole(int n, long d, int size) {
        List<Integer> due = Plain.roots(d, n);
        Due.is(n + ": how many roots " + d + " has", due.size(), size);
        RootFinder finder = null;
        for (int k = 0; k < size; k++) {
            if (k % 500 == 0) {
                finder = Known.looked(n, d).finder;
            }
            Due.is(n + ": root(" + k + ") of " + d, finder.root(k), due.get(k));
        }
        RootFinder last = Known.looked(n, d).finder;
        Due.isThrown(n + ": root(" + size + ") of " + d, NONE, () -> last.root(size));
        Due.is(n + ": count(5) after it", last.count(5), size);
        Due.is(n + ": root(" + (size - 1) + ") after it", last.root(size - 1), due.get(size - 1));
    }

    /** 786432 is 3 * 2^18: the longest way to a root modulo a prime. */
    private static void mostHalvings() {
        for (long d = -20; d <= 20; d++) {
            Known.looked(786433, d).stands("roots(" + d + ")");
        }
        Known.looked(786433 * 5, 4).stands("roots(4)");
        Known.looked(65537 * 63, 4).stands("roots(4)");
    }

    private static void ends() {
        for (int n : new int[] {3, 7, 8, 360, 4096, 510510, 4194301, 4194303}) {
            for (long d : new long[] {Long.MIN_VALUE, Long.MIN_VALUE + 1, Long.MAX_VALUE}) {
                Known state = Known.looked(n, d);
                state.stands("roots(" + d + ")");
                refuses(Known.looked(n, d), Plain.roots(d, n).size());
            }
        }
    }

    private static void latest() {
        RootFinder finder = Plain.taken(840);
        finder.roots(1);
        Due.is("840: root(31) of 1", finder.root(31), 839);
        finder.roots(0);
        Due.is("840: root(1) of 0", finder.root(1), 420);
        Due.isThrown("840: root(2) of 0", NONE, () -> finder.root(2));
        finder.roots(2);
        Due.isThrown("840: root(0) of 2", NONE, () -> finder.root(0));
        finder.roots(1);
        Due.is("840: root(0) of 1", finder.root(0), 1);
        finder.take(840);
        Due.isThrown("840: root(0) after take", NONE, () -> finder.root(0));
    }

    private static void stays() {
        Known.looked(360, 1).answers("prime(1)", 3, finder -> finder.prime(1));
        Known.looked(360, 1).answers("exponent(1)", 2, finder -> finder.exponent(1));
        Known.looked(360, 1).answers("divisor(23)", 360, finder -> finder.divisor(23));
        Known.looked(360, 1).answers("count(3)", 96, finder -> finder.count(3));
        Known.looked(360, 1).answers("count(4)", 6, finder -> finder.count(4));
        Known.looked(360, 1).answers("kronecker(5, 21)", 1, finder -> finder.kronecker(5, 21));
        Known.looked(360, 1).answers("power(7, 2)", 49, finder -> finder.power(7, 2));
        Known.looked(360, 1).answers("inverse(7)", 103, finder -> finder.inverse(7));
        Known.looked(360, 1).answers("root(15)", 359, finder -> finder.root(15));
    }
}
