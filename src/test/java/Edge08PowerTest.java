/** The boundary cases of promise 8: the smallest and greatest e, b at the ends, and N = 1. */
public final class Edge08PowerTest {
    private static final long LEAST = Long.MIN_VALUE;
    private static final long MOST = Long.MAX_VALUE;
    private static final int GREATEST = Plain.GREATEST;
    private static final long[] BASES = {0, 1, -1, 2, LEAST, LEAST + 1, MOST - 1, MOST};

    public static void main(String[] args) {
        Due.test("e = -1 is below 0: refused, and all stays", () -> refuses(-1));
        Due.test("the smallest e is refused, and all stays", () -> refuses(LEAST));
        Due.test("what else is below 0 is refused", () -> {
            refuses(-2);
            refuses(LEAST + 1);
            // Their low 32 bits are those of 0 and of 1.
            refuses(-4294967296L);
            refuses(-4294967295L);
        });
        Due.test("e = 0, the smallest: no factor at all makes 1", () -> {
            for (int n : new int[] {2, 3, 360, 4194301, 4194304}) {
                for (long b : BASES) {
                    is(n, b, 0, 1);
                }
            }
        });
        Due.test("0 taken 0 times is 1, taken once 0", () -> {
            is(2, 0, 0, 1);
            is(2, 0, 1, 0);
            is(GREATEST, 0, 0, 1);
            is(GREATEST, 0, 1, 0);
            is(GREATEST, 0, MOST, 0);
        });
        Due.test("modulo 1 all is 0, with e = 0 too", () -> {
            for (long b : BASES) {
                is(1, b, 0, 0);
                is(1, b, 1, 0);
                is(1, b, MOST, 0);
                Due.is("new: power(" + b + ", 0)", new RootFinder().power(b, 0), 0);
            }
        });
        Due.test("e = 1 makes b itself, from 0 to N - 1", Edge08PowerTest::once);
        Due.test("the greatest e", Edge08PowerTest::mostOften);
        Due.test("an e beyond int keeps its high bits", Edge08PowerTest::beyondInt);
        Due.test("the greatest factors modulo the greatest N", Edge08PowerTest::greatFactors);
        Due.test("it changes nothing", () -> {
            for (Known state : Known.all()) {
                int n = state.finder.count(0);
                state.answers("power(-1, 3)", n - 1, finder -> finder.power(-1, 3));
            }
        });
        Due.end();
    }

    private static void is(int n, long b, long e, int want) {
        Due.is(n + ": power(" + b + ", " + e + ")", Plain.taken(n).power(b, e), want);
    }

    private static void refuses(long e) {
        Known.allRefuse("power(1, " + e + ")", IllegalArgumentException.class,
            finder -> finder.power(1, e));
        for (long b : BASES) {
            Due.isThrown("360: power(" + b + ", " + e + ")", IllegalArgumentException.class,
                () -> Plain.taken(360).power(b, e));
        }
    }

    private static void once() {
        is(360, 0, 1, 0);
        is(360, 359, 1, 359);
        is(360, 360, 1, 0);
        is(360, 361, 1, 1);
        is(360, -1, 1, 359);
        is(360, -360, 1, 0);
        is(360, -361, 1, 359);
        is(2, LEAST, 1, 0);
        is(2, MOST, 1, 1);
        is(2, LEAST + 1, 1, 1);
        is(GREATEST, LEAST, 1, 0);
        is(GREATEST, LEAST + 1, 1, 1);
        is(GREATEST, MOST, 1, 4194303);
        is(GREATEST, MOST - 1, 1, 4194302);
        is(4194301, LEAST, 1, (int) Math.floorMod(LEAST, 4194301L));
        is(4194301, MOST, 1, (int) Math.floorMod(MOST, 4194301L));
    }

    private static void mostOften() {
        is(GREATEST, 1, MOST, 1);
        is(GREATEST, -1, MOST, 4194303);
        is(GREATEST, -1, MOST - 1, 1);
        is(GREATEST, 2, MOST, 0);
        is(3, 2, MOST, 2);
        is(3, 2, MOST - 1, 1);
        is(3603600, 3, MOST, 2187);
        for (int n : new int[] {4194301, 4194303, 4194304, 4194287, 510510}) {
            for (long b : BASES) {
                is(n, b, MOST, Plain.power(b, MOST, n));
                is(n, b, MOST - 1, Plain.power(b, MOST - 1, n));
            }
        }
    }

    private static void beyondInt() {
        for (int bit = 30; bit <= 62; bit++) {
            long e = 1L << bit;
            is(4194301, 3, e, Plain.power(3, e, 4194301));
            is(4194301, 3, e - 1, Plain.power(3, e - 1, 4194301));
            is(4194301, 3, e + 1, Plain.power(3, e + 1, 4194301));
        }
    }

    private static void greatFactors() {
        is(GREATEST, 4194303, 2, 1);
        is(GREATEST, 4194303, 3, 4194303);
        is(4194301, 4194300, 2, 1);
        is(4194301, 4194300, 3, 4194300);
        is(4194303, 4194301, 2, 4);
        is(GREATEST, 2048, 2, 0);
        is(GREATEST, 2, 21, 2097152);
        is(GREATEST, 2, 22, 0);
    }
}
