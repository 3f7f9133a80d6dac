/** Promises 1 to 6: a new object, and what is told of rows and boxes. */
public final class RowsTest {
    private static final int MIN = Integer.MIN_VALUE;
    private static final int MAX = Integer.MAX_VALUE;

    public static void main(String[] args) {
        newObject();
        setRow();
        setRowWrong();
        setCapacity();
        setCapacityWrong();
        setBalls();
        setBallsWrong();
        getBalls();
        countBalls();
        Check.end("RowsTest");
    }

    private static void newObject() {
        BoxballHall hall = new BoxballHall();
        Check.due("boxes at first", 10, Halls.countBoxes(hall));
        Check.due("balls at first", "0000000000", Halls.balls(hall));
        Check.due("checksum at first", Halls.checksum("1111111111", "0000000000", 0), hall.checksum());
        Check.due("kept at first", 0, hall.countKept());
        Check.thrown("it is a line at first", Check.REFUSED, () -> hall.getPeriod(1));
        Check.due("it is simple at first", 0, hall.countWaves());
        Check.due("waves chosen at first", 0, hall.clearWaves());
        Check.due("sizes typed at first", 0, hall.wipe());
        Check.due("time at first", 0, hall.getLeaving(7, 5));
        Check.due("height at first", 0, hall.getHeight(-999, 99));
        BoxballHall other = new BoxballHall();
        other.setBalls(3, 1);
        Check.due("each object has its own row", 0, hall.countBalls());
    }

    private static void setRow() {
        BoxballHall hall = Halls.line("1100100000");
        hall.step(9);
        Check.due("boxes before", 10, hall.setRow(1, 1, false));
        Check.due("boxes before", 1, hall.setRow(60, 4, true));
        Check.due("boxes before", 60, hall.setRow(24, 3, false));
        Check.due("without balls", "0".repeat(24), Halls.balls(hall));
        Check.due("kept behind a row", 0, hall.countKept());
        Check.due("capacities of a row", Halls.checksum("3".repeat(24), "0".repeat(24), 0), hall.checksum());
        Check.thrown("a line of 24", Check.REFUSED, () -> hall.getPeriod(1));
        hall.setRow(24, 1, true);
        Check.due("a ring of 24", 1, hall.getPeriod(1));
        hall.setBalls(23, 1);
        hall.setRow(24, 1, true);
        Check.due("the same row anew is empty", 0, hall.countBalls());
    }

    private static void setRowWrong() {
        BoxballHall hall = Halls.line("1100100000");
        hall.step(9);
        long sum = hall.checksum();
        int[][] wrong = {{0, 1}, {61, 1}, {10, 0}, {10, 5}, {-1, 1}, {10, -1}, {MIN, 1}, {MAX, 1}, {1, MIN}, {1, MAX}};
        for (int[] given : wrong) {
            Check.thrown("setRow " + given[0] + " " + given[1], Check.ARGUMENT, () -> hall.setRow(given[0], given[1], true));
        }
        Check.due("a refused row changes nothing", sum, hall.checksum());
        Check.due("it is a line still", 2, hall.countWaves());
    }

    private static void setCapacity() {
        BoxballHall hall = Halls.row("4444", "4321", false);
        Check.due("capacity before", 4, hall.setCapacity(0, 2));
        Check.due("capacity before", 2, hall.setCapacity(0, 1));
        Check.due("it loses what it cannot hold", "1321", Halls.balls(hall));
        Check.due("capacity before", 1, hall.setCapacity(0, 4));
        Check.due("what is lost does not come again", "1321", Halls.balls(hall));
        Check.due("capacity before", 4, hall.setCapacity(1, 3));
        Check.due("capacity before", 4, hall.setCapacity(3, 2));
        Check.due("it keeps what it can hold", "1321", Halls.balls(hall));
        Check.due("capacities", Halls.checksum("4342", "1321", 0), hall.checksum());
        BoxballHall kept = Halls.line("1100100000");
        kept.step(9);
        kept.setCapacity(9, 2);
        Check.due("it takes no row away, and keeps none", 1, kept.countKept());
        Check.due("the row that is kept is as it was", "1100100000", Halls.past(kept, 1));
    }

    private static void setCapacityWrong() {
        BoxballHall hall = Halls.line("1100100000");
        long sum = hall.checksum();
        for (int box : new int[] {-1, 10, 59, 60, MIN, MAX}) {
            Check.thrown("setCapacity of " + box, Check.INDEX, () -> hall.setCapacity(box, 1));
            Check.thrown("setCapacity of " + box + ", wrong too", Check.INDEX, () -> hall.setCapacity(box, 5));
        }
        for (int capacity : new int[] {0, 5, -1, MIN, MAX}) {
            Check.thrown("setCapacity to " + capacity, Check.ARGUMENT, () -> hall.setCapacity(0, capacity));
        }
        Check.due("it changes nothing", sum, hall.checksum());
    }

    private static void setBalls() {
        BoxballHall hall = Halls.row("1234", "0000", true);
        Check.due("balls before", 0, hall.setBalls(3, 4));
        Check.due("balls before", 4, hall.setBalls(3, 2));
        Check.due("balls before", 2, hall.setBalls(3, 0));
        Check.due("balls before", 0, hall.setBalls(0, 1));
        Check.due("balls before", 0, hall.setBalls(1, 2));
        Check.due("balls told", "1200", Halls.balls(hall));
        BoxballHall kept = Halls.line("1100100000");
        kept.step(9);
        kept.setBalls(9, 1);
        Check.due("it takes no row away, and keeps none", 1, kept.countKept());
    }

    private static void setBallsWrong() {
        BoxballHall hall = Halls.row("1234", "0120", false);
        long sum = hall.checksum();
        for (int box : new int[] {-1, 4, 10, 60, MIN, MAX}) {
            Check.thrown("setBalls of " + box, Check.INDEX, () -> hall.setBalls(box, 0));
            Check.thrown("setBalls of " + box + ", wrong too", Check.INDEX, () -> hall.setBalls(box, -1));
        }
        for (int box = 0; box < 4; box++) {
            int one = box;
            Check.thrown("below 0", Check.ARGUMENT, () -> hall.setBalls(one, -1));
            Check.thrown("more than its capacity", Check.ARGUMENT, () -> hall.setBalls(one, one + 2));
        }
        Check.thrown("far below 0", Check.ARGUMENT, () -> hall.setBalls(0, MIN));
        Check.thrown("far more", Check.ARGUMENT, () -> hall.setBalls(0, MAX));
        Check.due("it changes nothing", sum, hall.checksum());
    }

    private static void getBalls() {
        BoxballHall hall = Halls.row("1234", "1034", false);
        Check.due("the first box", 1, hall.getBalls(0));
        Check.due("an empty box", 0, hall.getBalls(1));
        Check.due("the last box", 4, hall.getBalls(3));
        for (int box : new int[] {-1, 4, 10, 59, 60, MIN, MAX}) {
            Check.thrown("getBalls of " + box, Check.INDEX, () -> hall.getBalls(box));
        }
        BoxballHall longest = Halls.line("0".repeat(59) + "1");
        Check.due("the box 59", 1, longest.getBalls(59));
    }

    private static void countBalls() {
        Check.due("balls of a line", 3, Halls.line("1100100000").countBalls());
        Check.due("balls of a full ring", 240, Halls.row("4".repeat(60), "4".repeat(60), true).countBalls());
        Check.due("balls of an empty box", 0, Halls.line("0").countBalls());
    }
}
