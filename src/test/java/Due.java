import java.util.function.IntSupplier;

/** What is due: compares answers, prints each that is not as due, and ends with exit code 1 if there was one. */
final class Due {
    private static int wrong = 0;
    private static int looked = 0;

    private Due() { }

    static void is(String what, double got, double want) {
        looked++;
        if (got != want) {
            wrong(what + " answered " + got + ", due is " + want);
        }
    }

    static void isSo(String what, boolean got) {
        looked++;
        if (!got) {
            wrong(what + " is false");
        }
    }

    static void isNot(String what, boolean got) {
        looked++;
        if (got) {
            wrong(what + " is true");
        }
    }

    /** Looks that the call throws just this exception, no class below it, and that the object answers as before. */
    static void refuses(String what, Classfederation x, Class<? extends RuntimeException> kind, Runnable call) {
        looked++;
        String before = State.of(x);
        Class<?> thrown = null;
        try {
            call.run();
        } catch (RuntimeException e) {
            thrown = e.getClass();
        }
        if (thrown != kind) {
            wrong(what + " threw " + thrown + ", due is " + kind);
        }
        if (!State.of(x).equals(before)) {
            wrong(what + " was refused and changed the state from\n" + before + "\nto\n" + State.of(x));
        }
    }

    /** The answer of the call, or what it threw, as a text. */
    static String told(IntSupplier call) {
        try {
            return Integer.toString(call.getAsInt());
        } catch (RuntimeException e) {
            return e.getClass().getSimpleName();
        }
    }

    static void same(String what, String got, String want) {
        looked++;
        if (!got.equals(want)) {
            wrong(what + " answered " + got + ", due is " + want);
        }
    }

    static int wrongs() {
        return wrong;
    }

    static void end() {
        System.out.println(looked + " looked at, " + wrong + " not as due");
        if (wrong != 0) {
            System.exit(1);
        }
    }

    private static void wrong(String text) {
        wrong++;
        System.out.println(text);
    }
}
