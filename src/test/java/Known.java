import java.util.ArrayList;
import java.util.HashMap;
import java.util.List;
import java.util.Map;

/**
 * An object in a state that is known whole, so that a call can be held against its answer and
 * against what it leaves behind: all that can be read must stand as it did.
 */
final class Known {
    /** A call on the object. */
    interface Use {
        int on(RootFinder finder);
    }

    private static final int MOST_CALLS = 512;
    private static final Map<String, List<Integer>> READINGS = new HashMap<>();

    final String name;
    final RootFinder finder = new RootFinder();
    private final List<Integer> due;
    private int calls = 0;

    private Known(String name, int n) {
        this.name = name;
        this.due = READINGS.computeIfAbsent(name, unread -> reading(n, List.of()));
    }

    private Known(String name, int n, long d) {
        this.name = name;
        this.due = READINGS.computeIfAbsent(name, unread -> reading(n, Plain.roots(d, n)));
    }

    static Known fresh() {
        return new Known("new", 1);
    }

    static Known taken(int n) {
        Known made = new Known("N " + n, n);
        made.finder.take(n);
        made.calls = 1;
        return made;
    }

    static Known looked(int n, long d) {
        Known made = new Known("N " + n + ", roots of " + d, n, d);
        made.finder.take(n);
        made.finder.roots(d);
        made.calls = 2;
        return made;
    }

    /** New objects, with nothing, little and much in each row. */
    static List<Known> all() {
        return List.of(fresh(), taken(1), looked(1, 0), taken(2), looked(2, 1), taken(360),
            looked(360, 1), looked(360, 7), looked(510510, 1), looked(4194301, 3),
            taken(4194304), looked(4194304, 1), looked(4194304, 3));
    }

    /** A call that is answered and changes nothing. */
    void answers(String call, int want, Use use) {
        calls++;
        Due.is(name + ": " + call, use.on(finder), want);
        stands(call);
    }

    /** A call that throws and changes nothing. */
    void refuses(String call, Class<? extends RuntimeException> want, Use use) {
        calls++;
        Due.isThrown(name + ": " + call, want, () -> use.on(finder));
        stands(call);
    }

    static void allAnswer(String call, int want, Use use) {
        for (Known state : all()) {
            state.answers(call, want, use);
        }
    }

    static void allRefuse(String call, Class<? extends RuntimeException> want, Use use) {
        for (Known state : all()) {
            state.refuses(call, want, use);
        }
    }

    void stands(String call) {
        List<Integer> got = read();
        Due.holds(name + ": after " + call + " there stands " + got + ", due is " + due,
            got.equals(due));
        calls += got.size();
        Due.holds(name + ": " + calls + " calls are more than a test may make",
            calls <= MOST_CALLS);
    }

    private List<Integer> read() {
        List<Integer> got = new ArrayList<>();
        for (int what = 0; what <= 5; what++) {
            got.add(finder.count(what));
        }
        for (int k = 0; k < got.get(1); k++) {
            got.add(finder.prime(k));
            got.add(finder.exponent(k));
        }
        for (int k = 0; k < got.get(2); k++) {
            got.add(finder.divisor(k));
        }
        for (int k = 0; k < got.get(5); k++) {
            got.add(finder.root(k));
        }
        return got;
    }

    private static List<Integer> reading(int n, List<Integer> roots) {
        List<Integer> primes = Plain.primes(n);
        List<Integer> divisors = Plain.divisors(n);
        List<Integer> whole = new ArrayList<>(List.of(n, primes.size(), divisors.size(),
            Plain.coprimes(n), Plain.greatestSquared(n), roots.size()));
        for (int p : primes) {
            whole.add(p);
            whole.add(Plain.exponent(n, p));
        }
        whole.addAll(divisors);
        whole.addAll(roots);
        return whole;
    }
}
