/** An object answers for 512 calls after it has been made, so the 512th is still right. */
public final class EdgeCallsTest {
    private static final int MOST_CALLS = 512;

    public static void main(String[] args) {
        Due.test("512 calls that find the most roots", () -> {
            RootFinder finder = Plain.taken(4193376);
            for (int call = 2; call < MOST_CALLS; call++) {
                Due.is("call " + call + ": roots(174724)", finder.roots(174724), 3344);
            }
            Due.is("call 512: root(3343)", finder.root(3343), Plain.roots(174724, 4193376).get(3343));
        });
        Due.test("512 calls that find the most divisors and the most primes", () -> {
            RootFinder finder = new RootFinder();
            for (int call = 1; call < MOST_CALLS; call += 2) {
                Due.is("call " + call + ": take(3603600)", finder.take(3603600), 6);
                Due.is("call " + (call + 1) + ": take(510510)", finder.take(510510), 7);
            }
        });
        Due.test("the 512th call is refused like the first", () -> {
            RootFinder finder = Plain.taken(360);
            finder.roots(1);
            for (int call = 3; call < MOST_CALLS; call++) {
                Due.isThrown("call " + call + ": take(0)", IllegalArgumentException.class,
                    () -> finder.take(0));
            }
            Due.is("call 512: root(15)", finder.root(15), 359);
        });
        lastCall("take", 3, finder -> finder.take(30));
        lastCall("prime", 5, finder -> finder.prime(2));
        lastCall("exponent", 3, finder -> finder.exponent(0));
        lastCall("divisor", 360, finder -> finder.divisor(23));
        lastCall("count", 16, finder -> finder.count(5));
        lastCall("kronecker", 1, finder -> finder.kronecker(2, 15));
        lastCall("power", 241, finder -> finder.power(7, 100));
        lastCall("inverse", 103, finder -> finder.inverse(7));
        lastCall("roots", 8, finder -> finder.roots(4));
        lastCall("root", 359, finder -> finder.root(15));
        Due.end();
    }

    private static void lastCall(String name, int want, Known.Use use) {
        Due.test("the 512th call, " + name, () -> {
            RootFinder finder = Plain.taken(360);
            for (int call = 2; call < MOST_CALLS; call++) {
                finder.roots(call == MOST_CALLS - 1 ? 1 : call);
            }
            Due.is("360: call 512, " + name, use.on(finder), want);
        });
    }
}
