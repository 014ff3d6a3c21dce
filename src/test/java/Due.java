import java.util.function.Consumer;
import java.util.function.IntFunction;
import java.util.function.IntSupplier;
import java.util.function.ObjIntConsumer;
import java.util.function.Supplier;

/** What is due: compares answers, prints each that is not as due, and ends with exit code 1 if there was one. */
final class Due {
    private static int wrong = 0;
    private static int looked = 0;
    private static String test = "";

    private Due() { }

    /** Tells whose answers come now. */
    static void begin(String name) {
        test = name + ": ";
    }

    static void is(String what, double got, double want) {
        looked++;
        if (got != want) {
            wrong(what + " answered " + got + ", due is " + want);
        }
    }

    static void isSo(String what, boolean got) {
        looked++;
        if (!got) {
            wrong(what + " is false");
        }
    }

    static void isNot(String what, boolean got) {
        looked++;
        if (got) {
            wrong(what + " is true");
        }
    }

    static void same(String what, String got, String want) {
        looked++;
        if (!got.equals(want)) {
            wrong(what + " answered " + got + ", due is " + want);
        }
    }

    /** Looks that the call throws just this exception, no class below it. */
    static void raises(String what, Class<? extends RuntimeException> kind, Runnable call) {
        looked++;
        Class<?> thrown = thrownBy(call);
        if (thrown != kind) {
            wrong(what + " threw " + thrown + ", due is " + kind);
        }
    }

    /** The same, and that a school so made goes on behind the refused call as one where it was never made. */
    static void refuses(String what, Supplier<Classfederation> made, Class<? extends RuntimeException> kind,
            Consumer<Classfederation> call) {
        Classfederation asked = made.get();
        raises(what, kind, () -> call.accept(asked));
        String changed = Looks.of(() -> {
            Classfederation x = made.get();
            thrownBy(() -> call.accept(x));
            return x;
        });
        looked++;
        tellChange(what, changed.split("\n"), Looks.of(made).split("\n"));
    }

    private static void tellChange(String what, String[] got, String[] want) {
        for (int i = 0; i < got.length || i < want.length; i++) {
            String line = i < got.length ? got[i] : "";
            String due = i < want.length ? want[i] : "";
            if (!line.equals(due)) {
                wrong(what + " was refused and changed the school:" + line + "\n  due is" + due);
                return;
            }
        }
    }

    /** The same for each of some numbers. */
    static void refusesEach(String what, Supplier<Classfederation> made, Class<? extends RuntimeException> kind,
            int[] numbers, ObjIntConsumer<Classfederation> call) {
        for (int number : numbers) {
            refuses(what + " " + number, made, kind, x -> call.accept(x, number));
        }
    }

    /**
     * Where none is there yet, one, and as many as there may be: the numbers of those that are there are not refused as
     * none, the numbers beyond both ends are.
     */
    static void knowsNumbers(String what, IntFunction<Classfederation> madeWith, int most,
            ObjIntConsumer<Classfederation> call) {
        for (int many : new int[] {0, 1, most}) {
            String there = what + " of " + many + ": number";
            refusesEach(there, () -> madeWith.apply(many), IndexOutOfBoundsException.class, outside(0, many - 1), call);
            for (int number = 0; number < many; number++) {
                Classfederation x = madeWith.apply(many);
                int n = number;
                isNot(there + " " + n + " refused", thrownBy(() -> call.accept(x, n)) == IndexOutOfBoundsException.class);
            }
        }
    }

    /** The numbers just beyond both ends, and the least and the greatest ints. */
    static int[] outside(int least, int most) {
        return new int[] {least - 1, most + 1, Integer.MIN_VALUE, Integer.MAX_VALUE};
    }

    /** The answer of the call, or what it threw, as a text. */
    static String told(IntSupplier call) {
        try {
            return Integer.toString(call.getAsInt());
        } catch (RuntimeException e) {
            return e.getClass().getSimpleName();
        }
    }

    static int wrongs() {
        return wrong;
    }

    static void end() {
        System.out.println(looked + " looked at, " + wrong + " not as due");
        if (wrong != 0) {
            System.exit(1);
        }
    }

    static void wrong(String text) {
        wrong++;
        System.out.println(test + text);
    }

    private static Class<?> thrownBy(Runnable call) {
        try {
            call.run();
        } catch (RuntimeException e) {
            return e.getClass();
        }
        return null;
    }
}
