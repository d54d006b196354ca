import java.util.List;

/** Promise 3: prime k of N, rising, from 0 on. */
public final class Promise03PrimeTest {
    public static void main(String[] args) {
        for (int n = 1; n <= 2000; n++) {
            check(n);
        }
        for (int n : Plain.NUMBERS) {
            check(n);
        }
        Due.end();
    }

    private static void check(int n) {
        List<Integer> primes = Plain.primes(n);
        RootFinder finder = Plain.taken(n);
        for (int k = 0; k < primes.size(); k++) {
            Due.is(n + ": prime(" + k + ")", finder.prime(k), primes.get(k));
        }
        for (int k : new int[] {primes.size(), 6, 7, 8, -1, Integer.MIN_VALUE, Integer.MAX_VALUE}) {
            if (k < 0 || k >= primes.size()) {
                Due.isThrown(n + ": prime(" + k + ")", IndexOutOfBoundsException.class,
                    () -> finder.prime(k));
            }
        }
    }
}
