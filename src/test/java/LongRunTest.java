import java.util.List;
import java.util.Random;

/** Runs of 512 mixed calls on one object, so that what one call leaves behind meets the next. */
public final class LongRunTest {
    private static final int CALLS = 512;

    private final Random random;
    private final RootFinder finder = new RootFinder();
    private int n = 1;
    private List<Integer> primes = List.of();
    private List<Integer> divisors = List.of(1);
    private List<Integer> roots = List.of();

    private LongRunTest(long seed) {
        random = new Random(seed);
    }

    public static void main(String[] args) {
        for (long seed = 1; seed <= 40; seed++) {
            LongRunTest run = new LongRunTest(seed);
            for (int call = 0; call < CALLS; call++) {
                run.step("run " + seed + ", call " + call + ": ");
            }
        }
        Due.end();
    }

    private void step(String where) {
        switch (random.nextInt(12)) {
            case 0 -> take(where);
            case 1 -> listed(where + "prime", primes, k -> finder.prime(k));
            case 2 -> listed(where + "divisor", divisors, k -> finder.divisor(k));
            case 3, 4, 5 -> listed(where + "root", roots, k -> finder.root(k));
            case 6, 7 -> lookForRoots(where);
            case 8 -> invert(where);
            case 9 -> raise(where);
            case 10 -> kronecker(where);
            default -> counts(where);
        }
    }

    private void take(String where) {
        int next = random.nextInt(8) == 0 ? -random.nextInt(5) : 1 + random.nextInt(20000);
        if (next < 1) {
            Due.isThrown(where + "take", IllegalArgumentException.class, () -> finder.take(next));
            return;
        }
        n = next;
        primes = Plain.primes(n);
        divisors = Plain.divisors(n);
        roots = List.of();
        Due.is(where + "take(" + n + ")", finder.take(n), primes.size());
    }

    private interface Reader {
        int read(int k);
    }

    private void listed(String call, List<Integer> due, Reader reader) {
        int k = random.nextInt(due.size() + 2) - 1;
        if (k < 0 || k >= due.size()) {
            Due.isThrown(call + "(" + k + ")", IndexOutOfBoundsException.class,
                () -> reader.read(k));
        } else {
            Due.is(call + "(" + k + ")", reader.read(k), due.get(k));
        }
    }

    private void lookForRoots(String where) {
        long x = random.nextInt(n) - n / 2;
        long d = random.nextInt(4) == 0 ? random.nextLong() : x * x;
        roots = Plain.roots(d, n);
        Due.is(where + n + ": roots(" + d + ")", finder.roots(d), roots.size());
    }

    private void invert(String where) {
        long a = random.nextLong();
        int want = Plain.inverse(a, n);
        if (want < 0) {
            Due.isThrown(where + "inverse(" + a + ")", IllegalStateException.class,
                () -> finder.inverse(a));
        } else {
            Due.is(where + "inverse(" + a + ")", finder.inverse(a), want);
        }
    }

    private void raise(String where) {
        long b = random.nextLong();
        long e = random.nextLong() >>> 1 + random.nextInt(60);
        Due.is(where + "power(" + b + ", " + e + ")", finder.power(b, e), Plain.power(b, e, n));
    }

    private void kronecker(String where) {
        long a = random.nextLong() >> random.nextInt(64);
        int m = random.nextInt(40001) - 20000;
        Due.is(where + "kronecker(" + a + ", " + m + ")", finder.kronecker(a, m),
            Plain.kronecker(a, m));
    }

    private void counts(String where) {
        int what = random.nextInt(8) - 1;
        int[] due = {-1, n, primes.size(), divisors.size(), Plain.coprimes(n),
            Plain.greatestSquared(n), roots.size(), -1};
        Due.is(where + n + ": count(" + what + ")", finder.count(what), due[what + 1]);
    }
}
