import java.util.Objects;

/** Counts what is not as due, prints it, and ends a test with exit code 1 if there was any. */
final class Checks {
    private static int made = 0;
    private static int wrong = 0;
    private static final long MOST_MILLISECONDS = 120_000;

    static {
        Thread watch = new Thread(Checks::endAfterAll);
        watch.setDaemon(true);
        watch.start();
    }

    private Checks() {
    }

    /** Each call must end: a test that does not is wrong, too. */
    private static void endAfterAll() {
        try {
            Thread.sleep(MOST_MILLISECONDS);
        } catch (InterruptedException e) {
            return;
        }
        System.out.println("a call does not end");
        Runtime.getRuntime().halt(1);
    }

    interface Call {
        void run();
    }

    static void same(String what, Object got, Object due) {
        made++;
        if (!Objects.equals(got, due)) {
            wrong++;
            System.out.println(what + ": answered " + got + ", due is " + due);
        }
    }

    static void raises(String what, Class<? extends Exception> due, Call call) {
        Class<?> got = null;
        try {
            call.run();
        } catch (RuntimeException e) {
            got = e.getClass();
        }
        same(what + " throws", got, due);
    }

    static void end(String test) {
        System.out.println(test + ": " + made + " checks, " + wrong + " wrong");
        if (wrong > 0 || made == 0) {
            System.exit(1);
        }
    }
}
