/** The boundary cases of promise 6: each what at the ends of N, and what is none of 0 .. 5. */
public final class Edge06CountTest {
    public static void main(String[] args) {
        Due.test("what -1 is another what, and changes nothing", () -> another(-1));
        Due.test("what 6 is another what, and changes nothing", () -> another(6));
        Due.test("the what at both ends of int is another what", () -> {
            another(Integer.MIN_VALUE);
            another(Integer.MIN_VALUE + 5);
            another(Integer.MAX_VALUE);
        });
        Due.test("a what whose low bits alone are good is another what", () -> {
            for (int what : new int[] {7, 8, 13, 256, 261, 65536, 65541, 1 << 30, -2, -5, -6}) {
                another(what);
            }
        });
        Due.test("what 0: N, from the smallest to the greatest", () -> {
            is(1, 0, 1);
            is(2, 0, 2);
            is(4194303, 0, 4194303);
            is(4194304, 0, 4194304);
        });
        Due.test("what 1: from no primes to 7", () -> {
            is(1, 1, 0);
            is(4194301, 1, 1);
            is(4194304, 1, 1);
            is(510510, 1, 7);
            is(4084080, 1, 7);
        });
        Due.test("what 2: from one divisor to 360", () -> {
            is(1, 2, 1);
            is(4194301, 2, 2);
            is(4194304, 2, 23);
            is(3603600, 2, 360);
        });
        Due.test("what 3: of 1 .. 1 the 1 counts, and a prime has all below it", () -> {
            is(1, 3, 1);
            is(2, 3, 1);
            is(3, 3, 2);
            is(4, 3, 2);
            is(4194301, 3, 4194300);
            is(4194304, 3, 2097152);
            is(4157521, 3, 2039 * 2038);
            is(510510, 3, 92160);
            is(1594323, 3, 1062882);
        });
        Due.test("what 4: from 1, if no greater square goes into N, to 2048", () -> {
            is(1, 4, 1);
            is(2, 4, 1);
            is(3, 4, 1);
            is(4, 4, 2);
            is(8, 4, 2);
            is(510510, 4, 1);
            is(4194301, 4, 1);
            is(2097152, 4, 1024);
            is(4157521, 4, 2039);
            is(4190209, 4, 2047);
            is(4194304, 4, 2048);
            is(1594323, 4, 729);
        });
        Due.test("what 5: none before any were looked for", () -> {
            Due.is("new: count(5)", new RootFinder().count(5), 0);
            is(1, 5, 0);
            is(360, 5, 0);
            is(4194304, 5, 0);
        });
        Due.test("what 5: from no roots found to the most there can be", () -> {
            found(360, 7, 0);
            found(1, 7, 1);
            found(4194304, 0, 2048);
            found(4193376, 418 * 418, 3344);
        });
        Due.test("what 5: the latest roots alone count", Edge06CountTest::latest);
        Due.end();
    }

    private static void another(int what) {
        Known.allAnswer("count(" + what + ")", -1, finder -> finder.count(what));
    }

    private static void is(int n, int what, int want) {
        Due.is(n + ": count(" + what + ")", Plain.taken(n).count(what), want);
    }

    private static void found(int n, long d, int want) {
        RootFinder finder = Plain.taken(n);
        finder.roots(d);
        Due.is(n + ": count(5) of " + d, finder.count(5), want);
    }

    private static void latest() {
        RootFinder finder = Plain.taken(840);
        int[] dues = {32, 2, 0, 32, 0, 2};
        long[] squares = {1, 0, 2, 1, 2, 0};
        for (int i = 0; i < dues.length; i++) {
            finder.roots(squares[i]);
            Due.is("840: count(5) after roots(" + squares[i] + ")", finder.count(5), dues[i]);
        }
        finder.take(840);
        Due.is("840: count(5) after take", finder.count(5), 0);
    }
}
