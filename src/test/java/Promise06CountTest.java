/** Promise 6: the six counts, and -1 for another what. */
public final class Promise06CountTest {
    public static void main(String[] args) {
        for (int n = 1; n <= 1000; n++) {
            check(n);
        }
        for (int n : Plain.NUMBERS) {
            check(n);
        }
        checkLatestRoots();
        Due.end();
    }

    private static void check(int n) {
        RootFinder finder = Plain.taken(n);
        Due.is(n + ": count(0)", finder.count(0), n);
        Due.is(n + ": count(1)", finder.count(1), Plain.primes(n).size());
        Due.is(n + ": count(2)", finder.count(2), Plain.divisors(n).size());
        Due.is(n + ": count(3)", finder.count(3), Plain.coprimes(n));
        Due.is(n + ": count(4)", finder.count(4), Plain.greatestSquared(n));
        Due.is(n + ": count(5)", finder.count(5), 0);
        for (int what : new int[] {-1, 6, 7, Integer.MIN_VALUE, Integer.MAX_VALUE}) {
            Due.is(n + ": count(" + what + ")", finder.count(what), -1);
        }
    }

    private static void checkLatestRoots() {
        RootFinder finder = Plain.taken(840);
        finder.roots(1);
        Due.is("840: count(5) after roots(1)", finder.count(5), 32);
        finder.roots(0);
        Due.is("840: count(5) after roots(0)", finder.count(5), 2);
        finder.roots(2);
        Due.is("840: count(5) after roots(2)", finder.count(5), 0);
    }
}
