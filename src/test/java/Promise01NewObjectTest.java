/** Promise 1: N is 1; no roots were looked for. */
public final class Promise01NewObjectTest {
    public static void main(String[] args) {
        checkNew(new RootFinder());
        RootFinder used = Plain.taken(3603600);
        used.roots(1);
        checkNew(new RootFinder());
        Due.is("count(0) of the used object", used.count(0), 3603600);
        Due.is("count(5) of the used object", used.count(5), 128);
        Due.end();
    }

    private static void checkNew(RootFinder finder) {
        Due.is("new: count(5)", finder.count(5), 0);
        Due.isThrown("new: root(0)", IndexOutOfBoundsException.class, () -> finder.root(0));
        Due.is("new: count(0)", finder.count(0), 1);
        Due.is("new: count(1)", finder.count(1), 0);
        Due.is("new: count(2)", finder.count(2), 1);
        Due.is("new: count(3)", finder.count(3), 1);
        Due.is("new: count(4)", finder.count(4), 1);
        Due.is("new: divisor(0)", finder.divisor(0), 1);
        Due.isThrown("new: divisor(1)", IndexOutOfBoundsException.class, () -> finder.divisor(1));
        Due.isThrown("new: prime(0)", IndexOutOfBoundsException.class, () -> finder.prime(0));
        Due.isThrown("new: exponent(0)", IndexOutOfBoundsException.class, () -> finder.exponent(0));
        Due.is("new: power(5, 0)", finder.power(5, 0), 0);
        Due.is("new: inverse(0)", finder.inverse(0), 0);
        Due.is("new: roots(7)", finder.roots(7), 1);
        Due.is("new: root(0)", finder.root(0), 0);
    }
}
