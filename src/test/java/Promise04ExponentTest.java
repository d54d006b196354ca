import java.util.List;

/** Promise 4: the exponent of prime k. */
public final class Promise04ExponentTest {
    public static void main(String[] args) {
        for (int n = 1; n <= 2000; n++) {
            check(n);
        }
        for (int n : Plain.NUMBERS) {
            check(n);
        }
        Due.is("4194304: exponent(0)", Plain.taken(Plain.GREATEST).exponent(0), 22);
        Due.end();
    }

    private static void check(int n) {
        List<Integer> primes = Plain.primes(n);
        RootFinder finder = Plain.taken(n);
        for (int k = 0; k < primes.size(); k++) {
            Due.is(n + ": exponent(" + k + ")", finder.exponent(k),
                Plain.exponent(n, primes.get(k)));
        }
        for (int k : new int[] {primes.size(), 6, 7, 8, -1, Integer.MIN_VALUE, Integer.MAX_VALUE}) {
            if (k < 0 || k >= primes.size()) {
                Due.isThrown(n + ": exponent(" + k + ")", IndexOutOfBoundsException.class,
                    () -> finder.exponent(k));
            }
        }
    }
}
