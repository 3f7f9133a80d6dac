import java.lang.reflect.InvocationTargetException;
import java.lang.reflect.Method;
import java.util.ArrayList;
import java.util.Comparator;
import java.util.List;
import java.util.Map;

/** Long runs of calls, made alike on the class and on the plain model: each answer, or exception, is compared. */
public final class ModelTest {
    private static final int RUNS = 240;
    private static final int MOST_CALLS = 512;

    /** For each method the ranges of its numbers, least and most one after the other; what is missing is free. */
    private static final Map<String, int[]> RANGES = Map.ofEntries(
            Map.entry("setRow", new int[] {1, 60, 1, 4}),
            Map.entry("setCapacity", new int[] {0, 59, 1, 4}),
            Map.entry("setBalls", new int[] {0, 59, 0, 4}),
            Map.entry("getBalls", new int[] {0, 59}),
            Map.entry("step", new int[] {1, 99}),
            Map.entry("stepBack", new int[] {1, 99}),
            Map.entry("run", new int[] {1, 99, 1, 99}),
            Map.entry("getPast", new int[] {1, 8, 0, 59}),
            Map.entry("commute", new int[] {1, 99, 1, 99}),
            Map.entry("getPeriod", new int[] {1, 99}),
            Map.entry("countPairs", new int[] {1, 9}),
            Map.entry("getSize", new int[] {0, 9}),
            Map.entry("getEnergy", new int[] {1, 99}),
            Map.entry("countRuns", new int[] {0, 99}),
            Map.entry("getRun", new int[] {0, 99, 0, 9}),
            Map.entry("getPlace", new int[] {0, 99, 0, 9}),
            Map.entry("exchange", new int[] {1, 9, 0, 9, 1, 9, 0, 9}),
            Map.entry("turnRound", new int[] {111, 999, 0, 999}),
            Map.entry("addWave", new int[] {1, 9, -60, 60}),
            Map.entry("getHeight", new int[] {-999, 999, -99, 99}),
            Map.entry("getChosen", new int[] {-999, 999, -99, 99}),
            Map.entry("takeChosen", new int[] {-99, 99}),
            Map.entry("obeys", new int[] {0, 255, 0, 7}),
            Map.entry("keepsNumbers", new int[] {0, 255}),
            Map.entry("move", new int[] {0, 255}),
            Map.entry("type", new int[] {1, 9}),
            Map.entry("countRows", new int[] {1, 12}),
            Map.entry("makeRow", new int[] {1, 12, 0, 40}),
            Map.entry("countImages", new int[] {1, 12, 0, 12}),
            Map.entry("setTime", new int[] {0, 7, 0, 5, 0, 99}),
            Map.entry("getLeaving", new int[] {0, 7, 0, 5}));

    private static final String[] COSTLY = {"keepsNumbers", "countRows", "countImages", "getPeriod", "makeRow"};

    private long seed = 20261119;
    private int calls = 0;
    private BoxballHall hall;
    private PlainHall plain;

    public static void main(String[] args) throws Exception {
        ModelTest test = new ModelTest();
        for (int run = 0; run < RUNS; run++) {
            test.compareRun(run);
        }
        Check.end("ModelTest");
    }

    private void compareRun(int run) throws Exception {
        hall = new BoxballHall();
        plain = new PlainHall();
        calls = 0;
        List<Method> methods = faceMethods();
        while (calls < MOST_CALLS) {
            if (pick(0, 24) == 0) {
                tellRow(run);
            }
            Method method = methods.get(pick(0, methods.size() - 1));
            boolean isCostly = List.of(COSTLY).contains(method.getName()) || isDestroying(method.getName());
            if (!isCostly || pick(0, 9) == 0) {
                compare(run, method, arguments(method));
            }
        }
    }

    /** Calls that would leave few long rows, if they came as often as the others do. */
    private static boolean isDestroying(String name) {
        return name.equals("setRow") || name.equals("takeChosen") || name.equals("setCapacity");
    }

    private static List<Method> faceMethods() {
        List<Method> methods = new ArrayList<>();
        for (Method method : BoxballHall.class.getDeclaredMethods()) {
            if (java.lang.reflect.Modifier.isPublic(method.getModifiers())) {
                methods.add(method);
            }
        }
        methods.sort(Comparator.comparing(Method::getName));
        return methods;
    }

    /** A row of some kind with balls, mostly so few on its right that some steps can be made. */
    private void tellRow(int run) throws Exception {
        int boxes = pick(0, 3) == 0 ? pick(1, 60) : pick(8, 40);
        int capacity = pick(0, 2) == 0 ? pick(1, 4) : 1;
        boolean isRing = pick(0, 2) == 0;
        compare(run, face("setRow"), new Object[] {boxes, capacity, isRing});
        int filled = pick(0, 2) == 0 ? boxes : (boxes + 1) / 2;
        int share = pick(1, 9);
        for (int box = 0; box < filled; box++) {
            if (pick(0, 9) < share) {
                compare(run, face("setBalls"), new Object[] {box, pick(1, capacity)});
            }
        }
    }

    private static Method face(String name) {
        return faceMethods().stream().filter(method -> method.getName().equals(name)).findFirst().orElseThrow();
    }

    /** Each call is followed by a checksum, which counts as a call too. */
    private void compare(int run, Method method, Object[] given) throws Exception {
        if (calls + 2 > MOST_CALLS) {
            return;
        }
        calls += 2;
        StringBuilder call = new StringBuilder("run " + run + ": " + method.getName() + "(");
        for (Object argument : given) {
            call.append(argument).append(' ');
        }
        Method second = PlainHall.class.getMethod(method.getName(), method.getParameterTypes());
        Check.due(call.append(')').toString(), outcome(plain, second, given), outcome(hall, method, given));
        Check.due(call + " checksum()", plain.checksum(), hall.checksum());
    }

    private static String outcome(Object object, Method method, Object[] given) throws Exception {
        try {
            return String.valueOf(method.invoke(object, given));
        } catch (InvocationTargetException e) {
            return "throws " + e.getCause().getClass().getSimpleName();
        }
    }

    private Object[] arguments(Method method) {
        int[] ranges = RANGES.getOrDefault(method.getName(), new int[0]);
        Class<?>[] types = method.getParameterTypes();
        Object[] given = new Object[types.length];
        for (int i = 0; i < types.length; i++) {
            given[i] = types[i] == boolean.class ? (Object) (pick(0, 1) == 0) : number(ranges[2 * i], ranges[2 * i + 1]);
        }
        return given;
    }

    private Integer number(int least, int most) {
        return switch (pick(0, 39)) {
            case 0 -> least - 1;
            case 1 -> most + 1;
            case 2 -> Integer.MIN_VALUE;
            case 3 -> Integer.MAX_VALUE;
            case 4, 5 -> least;
            case 6, 7 -> most;
            case 8, 9, 10, 11, 12, 13, 14, 15, 16, 17 -> Math.min(most, least + pick(0, 4));
            default -> pick(least, most);
        };
    }

    /** The same numbers in each run of the tests. */
    private int pick(int least, int most) {
        seed = seed * 6364136223846793005L + 1442695040888963407L;
        return least + (int) Math.floorMod(seed >>> 33, (long) most - least + 1);
    }
}
