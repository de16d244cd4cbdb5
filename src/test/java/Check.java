import java.util.function.Supplier;

/** Counts what is not as due, and prints it. */
final class Check {
    private static int made = 0;
    private static int wrong = 0;

    private Check() {
    }

    static void same(String what, Object want, Object got) {
        made++;
        if (!want.equals(got)) {
            wrong++;
            System.out.println(what + ": " + got + ", due is " + want);
        }
    }

    /** The class must be the very one: the machine's own exceptions are of classes below it. */
    static void raises(String what, Class<? extends RuntimeException> want, Supplier<Object> call) {
        made++;
        try {
            Object got = call.get();
            wrong++;
            System.out.println(what + ": " + got + ", due is " + want.getSimpleName());
        } catch (RuntimeException e) {
            if (e.getClass() != want) {
                wrong++;
                System.out.println(what + ": " + e + ", due is " + want.getSimpleName());
            }
        }
    }

    static void fail(String what) {
        made++;
        wrong++;
        System.out.println(what);
    }

    static void finish() {
        System.out.println(made + " checks, " + wrong + " wrong");
        if (wrong > 0 || made == 0) {
            System.exit(1);
        }
    }
}
