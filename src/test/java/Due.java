/** What the tests share: each wrong answer is printed, and the end tells whether there was one. */
final class Due {
    interface Call {
        long answer();
    }

    private static int checked = 0;
    private static int wrong = 0;

    private Due() {}

    static void is(String call, long got, long want) {
        checked++;
        if (got != want) {
            report(call + " answered " + got + ", due is " + want);
        }
    }

    static void isThrown(String call, Class<? extends RuntimeException> want, Call made) {
        checked++;
        try {
            report(call + " answered " + made.answer() + ", due is " + want.getSimpleName());
        } catch (RuntimeException e) {
            if (e.getClass() != want) {
                report(call + " threw " + e + ", due is " + want.getSimpleName());
            }
        }
    }

    static void holds(String what, boolean held) {
        checked++;
        if (!held) {
            report(what);
        }
    }

    /** A case of its own: it is named if it is broken, and the cases behind it are still run. */
    static void test(String sentence, Runnable body) {
        int wrongBefore = wrong;
        int checkedBefore = checked;
        try {
            body.run();
        } catch (RuntimeException e) {
            report("nothing is due to be thrown here, but there came " + e);
        }
        if (checked == checkedBefore) {
            report("nothing was checked");
        }
        if (wrong != wrongBefore) {
            System.out.println("BROKEN: " + sentence);
        }
    }

    private static void report(String text) {
        wrong++;
        if (wrong <= 20) {
            System.out.println(text);
        }
    }

    static void end() {
        System.out.println(checked + " checked, " + wrong + " wrong");
        if (wrong != 0 || checked == 0) {
            System.exit(1);
        }
    }
}
