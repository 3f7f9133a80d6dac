import java.util.NoSuchElementException;

/** What all tests count with: an answer that is due, or an exception that is due. */
final class Check {
    static final Class<? extends RuntimeException> ARGUMENT = IllegalArgumentException.class;
    static final Class<? extends RuntimeException> INDEX = IndexOutOfBoundsException.class;
    static final Class<? extends RuntimeException> REFUSED = UnsupportedOperationException.class;
    static final Class<? extends RuntimeException> NONE = NoSuchElementException.class;
    static final Class<? extends RuntimeException> STATE = IllegalStateException.class;
    static final Class<? extends RuntimeException> ARITHMETIC = ArithmeticException.class;

    interface Call {
        Object make();
    }

    private static int looked = 0;
    private static int wrong = 0;

    private Check() {
    }

    static void due(String call, long want, long got) {
        due(call, Long.valueOf(want), Long.valueOf(got));
    }

    static void due(String call, boolean want, boolean got) {
        due(call, Boolean.valueOf(want), Boolean.valueOf(got));
    }

    static void due(String call, double want, double got) {
        due(call, Double.valueOf(want), Double.valueOf(got));
    }

    static void due(String call, Object want, Object got) {
        looked++;
        if (!want.equals(got)) {
            wrong++;
            System.out.println(call + " answered " + got + ", due is " + want);
        }
    }

    /** The exception must be of the class itself: one of a class below it would tell of a fault in the machine. */
    static void thrown(String call, Class<? extends RuntimeException> want, Call made) {
        due(call, "throws " + want.getSimpleName(), outcome(made));
    }

    static String outcome(Call made) {
        try {
            return String.valueOf(made.make());
        } catch (RuntimeException e) {
            return "throws " + e.getClass().getSimpleName();
        }
    }

    static void end(String name) {
        System.out.println(name + ": " + looked + " answers looked at, " + wrong + " not as due");
        if (wrong != 0 || looked == 0) {
            System.exit(1);
        }
    }
}
