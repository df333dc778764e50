import java.util.function.BooleanSupplier;
import java.util.function.IntSupplier;

/** Counts what is as due and prints what is not; and the sums of the document, written apart from the program. */
final class Expect {
    /** More faults than these are counted, but not printed. */
    private static final int MOST_PRINTED = 60;

    private static int passed;
    private static int failed;

    private Expect() { }

    static void same(String what, long got, long due) {
        if (got == due) {
            passed++;
        } else {
            fault(what + " answered " + got + ", due is " + due);
        }
    }

    private static void fault(String text) {
        failed++;
        if (failed <= MOST_PRINTED) {
            System.out.println(text);
        }
    }

    static void text(String what, String got, String due) {
        if (got.equals(due)) {
            passed++;
        } else {
            fault(what + " answered " + got + ", due is " + due);
        }
    }

    static void yes(String what, boolean got) {
        same(what, got ? 1 : 0, 1);
    }

    static void no(String what, boolean got) {
        same(what, got ? 1 : 0, 0);
    }

    static void argument(String what, IntSupplier call) {
        refused(what, call, IllegalArgumentException.class);
    }

    static void state(String what, IntSupplier call) {
        refused(what, call, IllegalStateException.class);
    }

    static void index(String what, IntSupplier call) {
        refused(what, call, IndexOutOfBoundsException.class);
    }

    private static void refused(String what, IntSupplier call, Class<?> due) {
        try {
            int got = call.getAsInt();
            fault(what + " answered " + got + ", due is " + due.getSimpleName());
        } catch (IllegalArgumentException | IllegalStateException | IndexOutOfBoundsException e) {
            // The exact class: the machine's own exceptions stand below these.
            if (e.getClass() == due) {
                passed++;
            } else {
                fault(what + " threw " + e.getClass().getName() + ", due is " + due.getSimpleName());
            }
        }
    }

    static IntSupplier asInt(BooleanSupplier call) {
        return () -> call.getAsBoolean() ? 1 : 0;
    }

    static void close(String suite) {
        System.out.println(suite + ": " + passed + " passed, " + failed + " failed");
        if (failed > 0 || passed == 0) {
            System.exit(1);
        }
    }

    static int sum(int... numbers) {
        long sum = 7;
        for (int number : numbers) {
            sum = (31 * sum + number + 1) % 100003;
        }
        return (int) sum;
    }

    static int plus(int sum, int number) {
        return (int) ((31L * sum + number + 1) % 100003);
    }
}
