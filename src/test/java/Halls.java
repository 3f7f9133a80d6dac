/** Halls with rows that are told as digits, and rows read as digits again. */
final class Halls {
    private Halls() {
    }

    static BoxballHall line(String balls) {
        return row("1".repeat(balls.length()), balls, false);
    }

    static BoxballHall ring(String balls) {
        return row("1".repeat(balls.length()), balls, true);
    }

    static BoxballHall row(String capacities, String balls, boolean isRing) {
        BoxballHall hall = new BoxballHall();
        tell(hall, capacities, balls, isRing);
        return hall;
    }

    static void tell(BoxballHall hall, String capacities, String balls, boolean isRing) {
        hall.setRow(balls.length(), 1, isRing);
        for (int box = 0; box < balls.length(); box++) {
            hall.setCapacity(box, capacities.charAt(box) - '0');
            hall.setBalls(box, balls.charAt(box) - '0');
        }
    }

    static String balls(BoxballHall hall) {
        StringBuilder balls = new StringBuilder();
        for (int box = 0; box < countBoxes(hall); box++) {
            balls.append(hall.getBalls(box));
        }
        return balls.toString();
    }

    static String past(BoxballHall hall, int steps) {
        StringBuilder balls = new StringBuilder();
        for (int box = 0; box < countBoxes(hall); box++) {
            balls.append(hall.getPast(steps, box));
        }
        return balls.toString();
    }

    static int countBoxes(BoxballHall hall) {
        for (int box = 0; box < 60; box++) {
            try {
                hall.getBalls(box);
            } catch (IndexOutOfBoundsException e) {
                return box;
            }
        }
        return 60;
    }

    /** The checksum that the document tells of, over capacities and balls as digits. */
    static long checksum(String capacities, String balls, int kept) {
        long sum = 7;
        for (int box = 0; box < balls.length(); box++) {
            sum = 31 * sum + (capacities.charAt(box) - '0');
            sum = 31 * sum + (balls.charAt(box) - '0');
        }
        return 31 * sum + kept;
    }
}
