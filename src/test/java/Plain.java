import java.math.BigInteger;
import java.util.ArrayList;
import java.util.List;

/** The document's terms reckoned in the plainest way, without any of the program's shortcuts. */
final class Plain {
    static final int GREATEST = 4194304;

    /** Small, square, prime, smooth and extreme numbers N. */
    static final int[] NUMBERS = {
        1, 2, 3, 4, 6, 8, 9, 12, 16, 25, 27, 30, 36, 49, 64, 72, 97, 100, 121, 210, 243, 360, 720,
        1001, 1024, 2187, 2310, 4096, 5040, 10007, 12289, 30030, 40961, 65536, 65537, 83160,
        117649, 161051, 510510, 720720, 786433, 1048576, 1594323, 1679616, 1771561, 1953125,
        2097143, 2097152, 2162160, 2822400, 3407873, 3538944, 3603600, 3981312, 4084101, 4157521,
        4190209, 4194287, 4194301, 4194302, 4194303, 4194304
    };

    private Plain() {}

    static List<Integer> primes(int n) {
        List<Integer> found = new ArrayList<>();
        int rest = n;
        for (int p = 2; rest > 1; p++) {
            if (rest % p == 0) {
                found.add(p);
            }
            while (rest % p == 0) {
                rest /= p;
            }
        }
        return found;
    }

    /** At n: how many primes n has, for all n at once. */
    static byte[] primeCounts() {
        byte[] found = new byte[GREATEST + 1];
        for (int p = 2; p <= GREATEST; p++) {
            if (found[p] == 0) {
                for (int n = p; n <= GREATEST; n += p) {
                    found[n]++;
                }
            }
        }
        return found;
    }

    /** At n: how many divisors n has, for all n at once. */
    static short[] divisorCounts() {
        short[] found = new short[GREATEST + 1];
        for (int x = 1; x <= GREATEST; x++) {
            for (int n = x; n <= GREATEST; n += x) {
                found[n]++;
            }
        }
        return found;
    }

    static int exponent(int n, int p) {
        int found = 0;
        for (int rest = n; rest % p == 0; rest /= p) {
            found++;
        }
        return found;
    }

    static List<Integer> divisors(int n) {
        List<Integer> found = new ArrayList<>();
        for (int x = 1; x <= n; x++) {
            if (n % x == 0) {
                found.add(x);
            }
        }
        return found;
    }

    static int coprimes(int n) {
        int found = 0;
        for (int x = 1; x <= n; x++) {
            if (greatestCommon(x, n) == 1) {
                found++;
            }
        }
        return found;
    }

    private static int greatestCommon(int a, int b) {
        return b == 0 ? a : greatestCommon(b, a % b);
    }

    static int greatestSquared(int n) {
        int found = 1;
        for (int x = 1; x * x <= n && x <= 2048; x++) {
            if (n % (x * x) == 0) {
                found = x;
            }
        }
        return found;
    }

    static int kronecker(long a, int n) {
        if (n == 0) {
            return a == 1 || a == -1 ? 1 : 0;
        }
        int symbol = n < 0 && a < 0 ? -1 : 1;
        int rest = Math.abs(n);
        for (int p : primes(rest)) {
            for (int e = exponent(rest, p); e > 0; e--) {
                symbol *= kroneckerOfPrime(a, p);
            }
        }
        return symbol;
    }

    private static int kroneckerOfPrime(long a, int p) {
        if (p == 2) {
            long rest = Math.floorMod(a, 8L);
            return rest % 2 == 0 ? 0 : rest == 1 || rest == 7 ? 1 : -1;
        }
        long like = Math.floorMod(a, (long) p);
        if (like == 0) {
            return 0;
        }
        for (long x = 1; x < p; x++) {
            if (x * x % p == like) {
                return 1;
            }
        }
        return -1;
    }

    static int power(long b, long e, int n) {
        return BigInteger.valueOf(b).modPow(BigInteger.valueOf(e), BigInteger.valueOf(n)).intValue();
    }

    /** -1 if there is none. */
    static int inverse(long a, int n) {
        long like = Math.floorMod(a, (long) n);
        for (long x = 0; x < n; x++) {
            if ((x * like - 1) % n == 0) {
                return (int) x;
            }
        }
        return -1;
    }

    /** At d: how many roots d has modulo n, for all d from 0 to n - 1 at once. */
    static int[] rootCounts(int n) {
        int[] found = new int[n];
        for (long x = 0; x < n; x++) {
            found[(int) (x * x % n)]++;
        }
        return found;
    }

    static List<Integer> roots(long d, int n) {
        List<Integer> found = new ArrayList<>();
        long like = Math.floorMod(d, (long) n);
        for (long x = 0; x < n; x++) {
            if (x * x % n == like) {
                found.add((int) x);
            }
        }
        return found;
    }

    /** A new object with n taken: an object answers for 512 calls alone. */
    static RootFinder taken(int n) {
        RootFinder finder = new RootFinder();
        finder.take(n);
        return finder;
    }
}
