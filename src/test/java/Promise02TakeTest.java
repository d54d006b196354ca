/** Promise 2: N becomes n, roots are forgotten; a refused n changes nothing. */
public final class Promise02TakeTest {
    private static final int[] REFUSED = {
        0, -1, -12, Integer.MIN_VALUE, Plain.GREATEST + 1, Plain.GREATEST * 2, Integer.MAX_VALUE
    };

    public static void main(String[] args) {
        checkAnswers();
        checkRootsAreForgotten(360);
        checkRootsAreForgotten(1);
        for (int n : REFUSED) {
            checkRefused(n);
        }
        Due.end();
    }

    private static void checkAnswers() {
        for (int n : Plain.NUMBERS) {
            RootFinder finder = new RootFinder();
            Due.is("take(" + n + ")", finder.take(n), Plain.primes(n).size());
            Due.is("count(0) after take(" + n + ")", finder.count(0), n);
        }
        RootFinder finder = new RootFinder();
        for (int n = 500; n > 0; n--) {
            Due.is("take(" + n + ") after others", finder.take(n), Plain.primes(n).size());
        }
    }

    private static void checkRootsAreForgotten(int next) {
        RootFinder finder = Plain.taken(360);
        Due.is("360: roots(4)", finder.roots(4), Plain.roots(4, 360).size());
        finder.take(next);
        Due.is("count(5) after take(" + next + ")", finder.count(5), 0);
        Due.isThrown("root(0) after take(" + next + ")", IndexOutOfBoundsException.class,
            () -> finder.root(0));
    }

    private static void checkRefused(int n) {
        RootFinder finder = Plain.taken(360);
        finder.roots(1);
        String after = " after the refused take(" + n + ")";
        Due.isThrown("take(" + n + ")", IllegalArgumentException.class, () -> finder.take(n));
        Due.is("count(0)" + after, finder.count(0), 360);
        Due.is("count(1)" + after, finder.count(1), 3);
        Due.is("count(2)" + after, finder.count(2), 24);
        Due.is("count(3)" + after, finder.count(3), 96);
        Due.is("count(4)" + after, finder.count(4), 6);
        Due.is("count(5)" + after, finder.count(5), 16);
        Due.is("prime(2)" + after, finder.prime(2), 5);
        Due.is("exponent(0)" + after, finder.exponent(0), 3);
        Due.is("divisor(23)" + after, finder.divisor(23), 360);
        Due.is("root(15)" + after, finder.root(15), 359);
        Due.is("inverse(7)" + after, finder.inverse(7), 103);
        RootFinder fresh = new RootFinder();
        Due.isThrown("new: take(" + n + ")", IllegalArgumentException.class, () -> fresh.take(n));
        Due.is("new: count(0)" + after, fresh.count(0), 1);
    }
}
