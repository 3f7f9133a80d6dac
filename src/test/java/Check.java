import java.util.NoSuchElementException;

/** What all tests count with: an answer that is due, or an exception that is due. */
final class Check {
    static final int MIN = Integer.MIN_VALUE;
    static final int MAX = Integer.MAX_VALUE;
    static final Class<? extends RuntimeException> ARGUMENT = IllegalArgumentException.class;
    static final Class<? extends RuntimeException> INDEX = IndexOutOfBoundsException.class;
    static final Class<? extends RuntimeException> REFUSED = UnsupportedOperationException.class;
    static final Class<? extends RuntimeException> NONE = NoSuchElementException.class;
    static final Class<? extends RuntimeException> STATE = IllegalStateException.class;
    static final Class<? extends RuntimeException> ARITHMETIC = ArithmeticException.class;

    interface Call {
        Object make();
    }

    interface Maker {
        BoxballHall make();
    }

    interface On {
        Object call(BoxballHall hall);
    }

    interface OnNumber {
        Object call(BoxballHall hall, int number);
    }

    private static String place = "";
    private static int looked = 0;
    private static int wrong = 0;

    private Check() {
    }

    static void due(String call, long want, long got) {
        due(call, Long.valueOf(want), Long.valueOf(got));
    }

    static void due(String call, boolean want, boolean got) {
        due(call, Boolean.valueOf(want), Boolean.valueOf(got));
    }

    static void due(String call, double want, double got) {
        due(call, Double.valueOf(want), Double.valueOf(got));
    }

    static void due(String call, Object want, Object got) {
        looked++;
        if (!want.equals(got)) {
            wrong++;
            System.out.println(place + call + " answered " + got + ", due is " + want);
        }
    }

    /** The exception must be of the class itself: one of a class below it would tell of a fault in the machine. */
    static void thrown(String call, Class<? extends RuntimeException> want, Call made) {
        due(call, "throws " + want.getSimpleName(), outcome(made));
    }

    /** Two halls are made alike, and one is called wrongly: behind that it must be as the other one. */
    static void refused(String call, Class<? extends RuntimeException> want, Maker maker, On wrongCall) {
        BoxballHall wronged = maker.make();
        thrown(call, want, () -> wrongCall.call(wronged));
        due(call + ", and what it changed", Halls.all(maker.make()), Halls.all(wronged));
    }

    /** The last numbers that are taken on each side, and the first ones that are refused, and far ones. */
    static void range(String call, int least, int most, Class<? extends RuntimeException> want, Maker maker, OnNumber on) {
        for (int taken : new int[] {least, most}) {
            BoxballHall hall = maker.make();
            due(call + " " + taken + " is taken", false, outcome(() -> on.call(hall, taken)).startsWith("throws"));
        }
        for (int wrongNumber : new int[] {least - 1, most + 1, MIN, MAX}) {
            refused(call + " " + wrongNumber, want, maker, hall -> on.call(hall, wrongNumber));
        }
    }

    static String outcome(Call made) {
        try {
            return String.valueOf(made.make());
        } catch (RuntimeException e) {
            return "throws " + e.getClass().getSimpleName();
        }
    }

    /** What is looked at from here on is told with this place ahead. */
    static void at(String newPlace) {
        place = newPlace;
    }

    static int countLooked() {
        return looked;
    }

    static void end(String name) {
        System.out.println(name + ": " + looked + " answers looked at, " + wrong + " not as due");
        if (wrong != 0 || looked == 0) {
            System.exit(1);
        }
    }
}
