/**
 * Factors and divisors of a number, Kronecker's symbol, and what can be reckoned modulo that
 * number: powers, inverses and square roots.
 */
public final class RootFinder {
    private static final int GREATEST = 4194304;
    private static final int ROOT_OF_GREATEST = 2048;

    /** No number up to GREATEST can be halved more often, nor any other prime be taken out. */
    private static final int MOST_HALVINGS = 22;

    /** 2 * 3 * 5 * 7 * 11 * 13 * 17 is below GREATEST, and with 19 it is above. */
    private static final int MOST_PRIMES = 7;

    /** 3603600 has 360 divisors; the next number with more is 4324320. */
    private static final int MOST_DIVISORS = 360;

    private static final int MOST_ROOTS = 4096;

    /** Two steps of Euclid at least halve the numbers, so 2 * 23 would do. */
    private static final int EUCLID_STEPS = 64;

    private static final int BITS_OF_EXPONENT = 63;

    /** Stands for "there is none" where only numbers from 0 on can be meant. */
    private static final int NONE = -1;

    private int number;

    private int primeCount;
    private final int[] primeRow;
    private final int[] exponentRow;

    private int divisorCount;
    private final int[] divisorRow;

    private int rootCount;
    private int[] rootRow;

    /** A second row as long as the row of roots: joining and sorting write there. */
    private int[] spareRow;

    public RootFinder() {
        primeRow = new int[MOST_PRIMES];
        exponentRow = new int[MOST_PRIMES];
        divisorRow = new int[MOST_DIVISORS];
        rootRow = new int[MOST_ROOTS];
        spareRow = new int[MOST_ROOTS];
        number = 1;
        primeCount = 0;
        divisorRow[0] = 1;
        divisorCount = 1;
        rootCount = 0;
    }

    public int take(int n) throws IllegalArgumentException {
        if (n < 1 || n > GREATEST) {
            throw new IllegalArgumentException("the number must be 1 .. 4194304");
        }
        number = n;
        rootCount = 0;
        findPrimes();
        findDivisors();
        return primeCount;
    }

    public int prime(int k) throws IndexOutOfBoundsException {
        if (k < 0 || k >= primeCount) {
            throw new IndexOutOfBoundsException("there is no such prime");
        }
        return primeRow[k];
    }

    public int exponent(int k) throws IndexOutOfBoundsException {
        if (k < 0 || k >= primeCount) {
            throw new IndexOutOfBoundsException("there is no such prime");
        }
        return exponentRow[k];
    }

    public int divisor(int k) throws IndexOutOfBoundsException {
        if (k < 0 || k >= divisorCount) {
            throw new IndexOutOfBoundsException("there is no such divisor");
        }
        return divisorRow[k];
    }

    public int count(int what) {
        switch (what) {
            case 0:
                return number;
            case 1:
                return primeCount;
            case 2:
                return divisorCount;
            case 3:
                return countCoprimes();
            case 4:
                return greatestSquaredDivisor();
            case 5:
                return rootCount;
            default:
                return -1;
        }
    }

    public int kronecker(long a, int n) throws IllegalArgumentException {
        if (n < -GREATEST || n > GREATEST) {
            throw new IllegalArgumentException("n must be -4194304 .. 4194304");
        }
        if (n == 0) {
            return a == 1 || a == -1 ? 1 : 0;
        }
        int symbol = n < 0 && a < 0 ? -1 : 1;
        int odd = n < 0 ? -n : n;
        for (int i = 0; i < MOST_HALVINGS && odd % 2 == 0; i++) {
            odd = odd / 2;
            symbol = symbol * symbolWithTwo(a);
        }
        return symbol * jacobi(a, odd);
    }

    public int power(long b, long e) throws IllegalArgumentException {
        if (e < 0) {
            throw new IllegalArgumentException("the exponent must not be below 0");
        }
        return raise(b, e, number);
    }

    public int inverse(long a) throws IllegalStateException {
        int found = invert(a, number);
        if (found == NONE) {
            throw new IllegalStateException("there is no inverse");
        }
        return found;
    }

    public int roots(long d) {
        int square = residue(d, number);
        int modulus = 1;
        rootRow[0] = 0;
        rootCount = 1;
        for (int i = 0; i < primeCount && rootCount > 0; i++) {
            int p = primeRow[i];
            joinRootsModuloPrime(square, modulus, p);
            modulus = modulus * p;
            for (int e = 1; e < exponentRow[i]; e++) {
                liftRoots(square, modulus, p);
                modulus = modulus * p;
            }
        }
        sortRising(rootRow, rootCount);
        return rootCount;
    }

    public int root(int k) throws IndexOutOfBoundsException {
        if (k < 0 || k >= rootCount) {
            throw new IndexOutOfBoundsException("there is no such root");
        }
        return rootRow[k];
    }

    // Factors and divisors

    private void findPrimes() {
        int rest = number;
        primeCount = 0;
        for (int p = 2; p <= ROOT_OF_GREATEST && p * p <= rest; p++) {
            int exponent = 0;
            while (exponent < MOST_HALVINGS && rest % p == 0) {
                rest = rest / p;
                exponent++;
            }
            if (exponent > 0) {
                addPrime(p, exponent);
            }
        }
        if (rest > 1) {
            addPrime(rest, 1);
        }
    }

    private void addPrime(int p, int exponent) {
        if (primeCount < MOST_PRIMES) {
            primeRow[primeCount] = p;
            exponentRow[primeCount] = exponent;
            primeCount++;
        }
    }

    private void findDivisors() {
        divisorRow[0] = 1;
        divisorCount = 1;
        for (int i = 0; i < primeCount; i++) {
            int before = divisorCount;
            int factor = 1;
            for (int e = 0; e < exponentRow[i]; e++) {
                factor = factor * primeRow[i];
                addMultiples(before, factor);
            }
        }
        sortRising(divisorRow, divisorCount);
    }

    private void addMultiples(int size, int factor) {
        for (int i = 0; i < size && divisorCount < MOST_DIVISORS; i++) {
            divisorRow[divisorCount] = divisorRow[i] * factor;
            divisorCount++;
        }
    }

    private int countCoprimes() {
        int product = 1;
        for (int i = 0; i < primeCount; i++) {
            product = product * (primeRow[i] - 1);
            for (int e = 1; e < exponentRow[i]; e++) {
                product = product * primeRow[i];
            }
        }
        return product;
    }

    private int greatestSquaredDivisor() {
        int product = 1;
        for (int i = 0; i < primeCount; i++) {
            for (int e = 2; e <= exponentRow[i]; e += 2) {
                product = product * primeRow[i];
            }
        }
        return product;
    }

    // Roots: those modulo a divisor of N become those modulo that divisor times a prime, until the
    // divisor is N. Each row on the way is the row of roots of a smaller number, so it fits too.

    /** For a prime p that does not go into the modulus (the Chinese remainder theorem). */
    private void joinRootsModuloPrime(int square, int modulus, int p) {
        int first = rootModuloPrime(residue(square, p), p);
        int second = residue(-first, p);
        int step = invert(modulus, p);
        int before = rootCount;
        swapRows();
        rootCount = 0;
        if (first == NONE || step == NONE) {
            return;
        }
        for (int i = 0; i < before; i++) {
            int x = spareRow[i];
            addRoot(x + modulus * residue((long) (first - x) * step, p));
            if (second != first) {
                addRoot(x + modulus * residue((long) (second - x) * step, p));
            }
        }
    }

    /**
     * For a prime p that goes into the modulus: then (x + t * modulus) squared is like
     * x * x + 2 * x * t * modulus, so that t solves a linear equation modulo p.
     */
    private void liftRoots(int square, int modulus, int p) {
        if (p == 2 || residue(square, p) == 0) {
            liftByAll(square, modulus, p);
        } else {
            liftByOne(square, modulus, p);
        }
    }

    /** p goes into 2 * x for each root x, so either every t is right or none. */
    private void liftByAll(int square, int modulus, int p) {
        int kept = 0;
        for (int i = 0; i < rootCount; i++) {
            if (excess(rootRow[i], square, modulus, p) == 0) {
                rootRow[kept] = rootRow[i];
                kept++;
            }
        }
        rootCount = kept;
        for (int t = 1; t < p; t++) {
            for (int i = 0; i < kept; i++) {
                addRoot(rootRow[i] + t * modulus);
            }
        }
    }

    /** p goes into 2 * x for no root x, so just one t is right. */
    private void liftByOne(int square, int modulus, int p) {
        for (int i = 0; i < rootCount; i++) {
            int x = rootRow[i];
            long slope = invert(2L * x, p);
            int t = residue(-slope * excess(x, square, modulus, p), p);
            rootRow[i] = x + t * modulus;
        }
    }

    /** How often the modulus goes into x * x - square, modulo p. */
    private static int excess(int x, int square, int modulus, int p) {
        if (modulus < 1) {
            return 0;
        }
        return residue(((long) x * x - square) / modulus, p);
    }

    private void addRoot(int x) {
        if (rootCount < MOST_ROOTS) {
            rootRow[rootCount] = x;
            rootCount++;
        }
    }

    private void swapRows() {
        int[] row = rootRow;
        rootRow = spareRow;
        spareRow = row;
    }

    /** One root of a (from 0 to p - 1) modulo the prime p; the other is p minus it. */
    private static int rootModuloPrime(int a, int p) {
        if (p == 2 || a == 0) {
            return a;
        }
        if (jacobi(a, p) != 1) {
            return NONE;
        }
        int odd = p - 1;
        int twos = 0;
        while (twos < MOST_HALVINGS && odd % 2 == 0) {
            odd = odd / 2;
            twos++;
        }
        return rootByTonelli(a, p, odd, twos);
    }

    /**
     * Tonelli's way, with p - 1 = odd * 2^twos. Throughout, x * x is like a * error, the error
     * taken 2^(left - 1) times as a factor gives 1, and the mender does so at 2^left, not before.
     */
    private static int rootByTonelli(int a, int p, int odd, int twos) {
        long x = raise(a, (odd + 1) / 2, p);
        long error = raise(a, odd, p);
        long mender = raise(nonresidue(p), odd, p);
        for (int left = twos; left > 1; left--) {
            long square = residue(mender * mender, p);
            if (raise(error, 1L << (left - 2), p) != 1) {
                x = residue(x * mender, p);
                error = residue(error * square, p);
            }
            mender = square;
        }
        return (int) x;
    }

    private static int nonresidue(int p) {
        int z = 2;
        while (z < p && jacobi(z, p) != -1) {
            z++;
        }
        return z;
    }

    // Reckoning modulo a number

    /** What is like a modulo m, from 0 to m - 1. */
    private static int residue(long a, int m) {
        if (m < 1) {
            return 0;
        }
        long rest = a % m;
        return (int) (rest < 0 ? rest + m : rest);
    }

    private static int raise(long b, long e, int m) {
        long product = residue(1, m);
        long square = residue(b, m);
        long rest = e;
        for (int i = 0; i < BITS_OF_EXPONENT && rest > 0; i++) {
            if (rest % 2 == 1) {
                product = residue(product * square, m);
            }
            square = residue(square * square, m);
            rest = rest / 2;
        }
        return (int) product;
    }

    /** Euclid's way: each remainder is like its factor times a, modulo m. */
    private static int invert(long a, int m) {
        int remainder = m;
        int factor = 0;
        int nextRemainder = residue(a, m);
        int nextFactor = 1;
        for (int i = 0; i < EUCLID_STEPS && nextRemainder > 0; i++) {
            int quotient = remainder / nextRemainder;
            int lastRemainder = remainder - quotient * nextRemainder;
            int lastFactor = factor - quotient * nextFactor;
            remainder = nextRemainder;
            factor = nextFactor;
            nextRemainder = lastRemainder;
            nextFactor = lastFactor;
        }
        return remainder == 1 ? residue(factor, m) : NONE;
    }

    /** Kronecker's symbol of a and 2, which is that of 2 and a too if a is odd and above 0. */
    private static int symbolWithTwo(long a) {
        long rest = a & 7;
        if (rest % 2 == 0) {
            return 0;
        }
        return rest == 1 || rest == 7 ? 1 : -1;
    }

    /** Kronecker's symbol of a and an odd n above 0, by the law of reciprocity: no primes needed. */
    private static int jacobi(long a, int n) {
        int symbol = 1;
        int bottom = n;
        int top = residue(a, n);
        for (int i = 0; i < EUCLID_STEPS && top > 0; i++) {
            for (int j = 0; j < MOST_HALVINGS && top % 2 == 0; j++) {
                top = top / 2;
                symbol = symbol * symbolWithTwo(bottom);
            }
            if (top % 4 == 3 && bottom % 4 == 3) {
                symbol = -symbol;
            }
            int rest = residue(bottom, top);
            bottom = top;
            top = rest;
        }
        return bottom == 1 ? symbol : 0;
    }

    // Sorting by merging: runs that rise are merged in pairs until one run is left.

    private void sortRising(int[] row, int size) {
        if (size > row.length || size > spareRow.length || isRising(row, size)) {
            return;
        }
        for (int width = 1; width < size; width = width * 2) {
            for (int start = 0; start < size; start += 2 * width) {
                int middle = Math.min(start + width, size);
                int end = Math.min(middle + width, size);
                mergeRuns(row, spareRow, start, middle, end);
            }
            System.arraycopy(spareRow, 0, row, 0, size);
        }
    }

    private static boolean isRising(int[] row, int size) {
        for (int i = 1; i < size; i++) {
            if (row[i - 1] > row[i]) {
                return false;
            }
        }
        return true;
    }

    private static void mergeRuns(int[] from, int[] to, int start, int middle, int end) {
        int left = start;
        int right = middle;
        for (int i = start; i < end; i++) {
            if (right >= end || left < middle && from[left] <= from[right]) {
                to[i] = from[left];
                left++;
            } else {
                to[i] = from[right];
                right++;
            }
        }
    }
}
