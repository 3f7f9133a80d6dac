/** Halls with rows that are told as digits, and rows read as digits again. */
final class Halls {
    /** Rings that come to themselves after 5000 steps of 1, and after 5001 steps of 2. */
    static final String CAPACITIES_5000 = "111121222221112233121";
    static final String BALLS_5000 = "000000210000100002010";
    static final String CAPACITIES_5001 = "211323111411424231111";
    static final String BALLS_5001 = "000000010400323021000";

    private static final int CUSTOMERS = 8;
    private static final int SERVERS = 6;

    private Halls() {
    }

    static BoxballHall line(String balls) {
        return row("1".repeat(balls.length()), balls, false);
    }

    static BoxballHall ring(String balls) {
        return row("1".repeat(balls.length()), balls, true);
    }

    static BoxballHall row(String capacities, String balls, boolean isRing) {
        BoxballHall hall = new BoxballHall();
        tell(hall, capacities, balls, isRing);
        return hall;
    }

    static void tell(BoxballHall hall, String capacities, String balls, boolean isRing) {
        hall.setRow(balls.length(), 1, isRing);
        tellBoxes(hall, capacities, balls);
    }

    private static void tellBoxes(BoxballHall hall, String capacities, String balls) {
        for (int box = 0; box < balls.length(); box++) {
            if (capacities.charAt(box) != '1') {
                hall.setCapacity(box, capacities.charAt(box) - '0');
            }
            if (balls.charAt(box) != '0') {
                hall.setBalls(box, balls.charAt(box) - '0');
            }
        }
    }

    /** A hall in which everything is told: three rows are kept, and there are waves, sizes and times. */
    static BoxballHall full(String capacities, String balls, boolean isRing) {
        BoxballHall hall = new BoxballHall();
        hall.setRow(balls.length(), 1, isRing);
        hall.setBalls(0, balls.length() > 1 || isRing ? 1 : 0);
        hall.step(1);
        hall.stepBack(1);
        hall.step(1);
        for (int box = 0; box < balls.length(); box++) {
            hall.setBalls(box, 0);
        }
        tellBoxes(hall, capacities, balls);
        chooseTypeAndTime(hall);
        return hall;
    }

    static BoxballHall fullLine() {
        return full("1111111111", "1100100000", false);
    }

    private static void chooseTypeAndTime(BoxballHall hall) {
        for (int[] wave : new int[][] {{3, 7}, {1, 20}, {2, -5}}) {
            hall.addWave(wave[0], wave[1]);
        }
        for (int size : new int[] {2, 1, 1}) {
            hall.type(size);
        }
        for (int i = 0; i < CUSTOMERS * SERVERS; i++) {
            hall.setTime(i % CUSTOMERS, i / CUSTOMERS, 1 + i * 37 % 99);
        }
    }

    static String balls(BoxballHall hall) {
        return digits(hall::getBalls);
    }

    static String past(BoxballHall hall, int steps) {
        return digits(box -> hall.getPast(steps, box));
    }

    private static String digits(java.util.function.IntUnaryOperator ballsOf) {
        StringBuilder balls = new StringBuilder();
        try {
            for (int box = 0; box <= 60; box++) {
                balls.append(ballsOf.applyAsInt(box));
            }
        } catch (IndexOutOfBoundsException e) {
            return balls.toString();
        }
        return balls.append(" and more").toString();
    }

    static int countBoxes(BoxballHall hall) {
        return balls(hall).length();
    }

    /** The checksum that the document tells of, over capacities and balls as digits. */
    static long checksum(String capacities, String balls, int kept) {
        long sum = 7;
        for (int box = 0; box < balls.length(); box++) {
            sum = 31 * sum + (capacities.charAt(box) - '0');
            sum = 31 * sum + (balls.charAt(box) - '0');
        }
        return 31 * sum + kept;
    }

    /** All that can be seen of a hall, by some 250 calls at most; the hall is changed by that. */
    static String all(BoxballHall hall) {
        StringBuilder seen = new StringBuilder();
        seen.append(hall.checksum()).append(' ').append(Check.outcome(hall::countWaves));
        for (int i = 0; i < CUSTOMERS * SERVERS; i++) {
            seen.append(' ').append(hall.setTime(i % CUSTOMERS, i / CUSTOMERS, 0));
        }
        for (int place = -20; place < 40; place += 2) {
            seen.append(' ').append(hall.getHeight(place, 1));
        }
        seen.append(" waves ").append(hall.clearWaves());
        seen.append(" sizes ").append(hall.countRows(6)).append(' ').append(hall.countRows(9)).append(' ').append(hall.wipe());
        while (hall.countKept() > 0) {
            seen.append(" kept ").append(hall.undo()).append(' ').append(hall.checksum());
        }
        return seen.append(kindOf(hall)).toString();
    }

    /** An emptied ring comes to itself at once; of a line there is no period. */
    private static String kindOf(BoxballHall hall) {
        int boxes = countBoxes(hall);
        for (int box = 0; box < boxes; box++) {
            hall.setBalls(box, 0);
        }
        return " kind " + Check.outcome(() -> hall.getPeriod(1)) + " boxes " + hall.setRow(1, 1, false);
    }
}
