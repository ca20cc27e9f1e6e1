/** Counts answers that are not as due, and ends a test's run with exit code 1 if there was one. */
final class Check {

    interface Call {
        void run();
    }

    static final Class<IndexOutOfBoundsException> INDEX = IndexOutOfBoundsException.class;
    static final Class<IllegalArgumentException> ARGUMENT = IllegalArgumentException.class;
    static final Class<IllegalStateException> STATE = IllegalStateException.class;
    static final Class<ArithmeticException> ARITHMETIC = ArithmeticException.class;

    /** Far more than any test needs. */
    private static final long MOST_MILLISECONDS = 300_000;

    private static int wrong = 0;
    private static volatile String about = "";

    static {
        Thread watch = new Thread(Check::watch);
        watch.setDaemon(true);
        watch.start();
    }

    private Check() {
    }

    /** A call that does not end is a wrong answer too. */
    private static void watch() {
        try {
            Thread.sleep(MOST_MILLISECONDS);
        } catch (InterruptedException e) {
            return;
        }
        System.out.println(about + "a call did not end");
        Runtime.getRuntime().halt(1);
    }

    /** What the checks that follow are about; each wrong answer is told with it. */
    static void about(String words) {
        about = words + ": ";
    }

    static void is(String call, long got, long due) {
        if (got != due) {
            tell(call + " answered " + got + ", due is " + due);
        }
    }

    static void is(String call, boolean got, boolean due) {
        is(call, got ? 1 : 0, due ? 1 : 0);
    }

    /** The very class is asked for: a machine's own exception of a lower class would be wrong. */
    static void refuses(String call, Class<? extends RuntimeException> due, Call it) {
        try {
            it.run();
        } catch (RuntimeException got) {
            if (got.getClass() != due) {
                tell(call + " threw " + got + ", due is " + due.getName());
            }
            return;
        }
        tell(call + " threw nothing, due is " + due.getName());
    }

    static void tell(String text) {
        wrong++;
        System.out.println(about + text);
    }

    static void end() {
        if (wrong != 0) {
            System.out.println(wrong + " answers are not as due");
            System.exit(1);
        }
    }
}
