/** The boundary cases of promise 2: the ends of 1 .. 4194304, and what a refused n leaves. */
public final class Edge02TakeTest {
    private static final Class<IllegalArgumentException> REFUSAL = IllegalArgumentException.class;

    /** Beyond the ends, and yet good if only the low bits were looked at, or not the sign. */
    private static final int[] FAR = {
        -1, -2, -360, -4194303, -4194304, -4194305, 4194306, 8388607, 8388608, 16777217, 1 << 30,
        -(1 << 30), Integer.MIN_VALUE + 1, Integer.MAX_VALUE - 1
    };

    public static void main(String[] args) {
        Due.test("the smallest n is 1, which has no primes", () -> takes(1, 0));
        Due.test("the smallest n but one is 2", () -> takes(2, 1));
        Due.test("the greatest n is 4194304, which has one prime", () -> takes(4194304, 1));
        Due.test("the greatest n but one is 4194303", () -> takes(4194303, 4));
        Due.test("0 is too small, and all stays", () -> refuses(0));
        Due.test("4194305 is too large, and all stays", () -> refuses(4194305));
        Due.test("the smallest int is too small, and all stays", () -> refuses(Integer.MIN_VALUE));
        Due.test("the greatest int is too large, and all stays", () -> refuses(Integer.MAX_VALUE));
        Due.test("what lies farther out is refused, and all stays", () -> {
            for (int n : FAR) {
                refuses(n);
            }
        });
        Due.test("a good n is taken behind refused ones", Edge02TakeTest::takesAfterRefusals);
        Due.test("no N has more than 7 primes", Edge02TakeTest::takesMostPrimes);
        Due.test("each n at the upper end is taken", Edge02TakeTest::takesUpperEnd);
        Due.test("behind take no roots were looked for", Edge02TakeTest::forgetsRoots);
        Due.test("nothing of a great N stands behind a small one", Edge02TakeTest::forgetsNumber);
        Due.end();
    }

    private static void takes(int n, int want) {
        Due.is("take(" + n + ")", new RootFinder().take(n), want);
        Known.taken(n).stands("take(" + n + ")");
    }

    private static void refuses(int n) {
        Known.allRefuse("take(" + n + ")", REFUSAL, finder -> finder.take(n));
    }

    private static void takesAfterRefusals() {
        RootFinder finder = new RootFinder();
        for (int n : FAR) {
            Due.isThrown("take(" + n + ")", REFUSAL, () -> finder.take(n));
        }
        Due.is("take(30) after refused ones", finder.take(30), 3);
        Due.is("count(0)", finder.count(0), 30);
        Due.is("prime(2)", finder.prime(2), 5);
    }

    private static void takesMostPrimes() {
        byte[] sizes = Plain.primeCounts();
        int most = 0;
        for (int n = 1; n <= Plain.GREATEST; n++) {
            if (sizes[n] >= 7) {
                most++;
                Due.is("take(" + n + ")", new RootFinder().take(n), 7);
            }
        }
        Due.is("take(510510)", new RootFinder().take(510510), 7);
        Due.holds("some N have 7 primes", most > 1);
    }

    private static void takesUpperEnd() {
        byte[] sizes = Plain.primeCounts();
        for (int n = Plain.GREATEST - 3000; n <= Plain.GREATEST; n++) {
            Due.is("take(" + n + ")", new RootFinder().take(n), sizes[n]);
        }
    }

    private static void forgetsRoots() {
        for (int next : new int[] {1, 2, 359, 360, 4194304}) {
            for (long d : new long[] {1, 0, 7}) {
                RootFinder finder = Known.looked(360, d).finder;
                finder.take(next);
                String after = " after roots(" + d + ") and take(" + next + ")";
                Due.is("count(5)" + after, finder.count(5), 0);
                Due.isThrown("root(0)" + after, IndexOutOfBoundsException.class,
                    () -> finder.root(0));
            }
        }
    }

    private static void forgetsNumber() {
        for (int great : new int[] {510510, 3603600, 4194301, 4194304}) {
            for (int small : new int[] {1, 2, 4, 360}) {
                Known state = Known.taken(small);
                state.finder.take(great);
                state.finder.roots(1);
                state.finder.take(small);
                state.stands("take(" + great + ") and take(" + small + ")");
            }
        }
    }
}
