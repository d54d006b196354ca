import java.util.List;

/** Promise 5: divisor k of N, rising, from 0 on. */
public final class Promise05DivisorTest {
    public static void main(String[] args) {
        for (int n = 1; n <= 2000; n++) {
            check(n);
        }
        for (int n : Plain.NUMBERS) {
            check(n);
        }
        Due.is("3603600: divisor(359)", Plain.taken(3603600).divisor(359), 3603600);
        Due.end();
    }

    private static void check(int n) {
        List<Integer> divisors = Plain.divisors(n);
        RootFinder finder = Plain.taken(n);
        for (int k = 0; k < divisors.size(); k++) {
            Due.is(n + ": divisor(" + k + ")", finder.divisor(k), divisors.get(k));
        }
        int size = divisors.size();
        for (int k : new int[] {size, size + 1, 360, -1, Integer.MIN_VALUE, Integer.MAX_VALUE}) {
            Due.isThrown(n + ": divisor(" + k + ")", IndexOutOfBoundsException.class,
                () -> finder.divisor(k));
        }
    }
}
