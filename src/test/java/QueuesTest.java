/** Promises 37 and 38: customers and servers. */
public final class QueuesTest {
    private static final int MIN = Integer.MIN_VALUE;
    private static final int MAX = Integer.MAX_VALUE;

    public static void main(String[] args) {
        setTime();
        getLeaving();
        longestWays();
        wrongPlaces();
        wrongTimes();
        Check.end("QueuesTest");
    }

    private static void setTime() {
        BoxballHall hall = new BoxballHall();
        for (int customer = 0; customer < 8; customer++) {
            for (int server = 0; server < 6; server++) {
                Check.due("time at first", 0, hall.setTime(customer, server, 10 * customer + server));
            }
        }
        for (int customer = 0; customer < 8; customer++) {
            for (int server = 0; server < 6; server++) {
                Check.due("time before", 10 * customer + server, hall.setTime(customer, server, 99));
                Check.due("time before", 99, hall.setTime(customer, server, 0));
            }
        }
        hall.setTime(3, 3, 7);
        hall.setRow(5, 1, true);
        Check.due("times stay when a row is told", 7, hall.setTime(3, 3, 8));
    }

    private static void getLeaving() {
        BoxballHall hall = new BoxballHall();
        Check.due("no time at all", 0, hall.getLeaving(7, 5));
        hall.setTime(0, 0, 5);
        hall.setTime(0, 1, 3);
        hall.setTime(1, 0, 1);
        hall.setTime(1, 1, 4);
        Check.due("the first one leaves the first server", 5, hall.getLeaving(0, 0));
        Check.due("and the second one", 8, hall.getLeaving(0, 1));
        Check.due("the next one waits for it", 6, hall.getLeaving(1, 0));
        Check.due("and at the second server", 12, hall.getLeaving(1, 1));
        Check.due("those behind wait too", 12, hall.getLeaving(7, 5));
        Check.due("at the first server", 6, hall.getLeaving(7, 0));
        Check.due("the first one at the last server", 8, hall.getLeaving(0, 5));
        hall.setTime(1, 0, 9);
        Check.due("a longer time at the first server", 18, hall.getLeaving(1, 1));
        Check.due("the first one does not wait for it", 8, hall.getLeaving(0, 5));
    }

    private static void longestWays() {
        BoxballHall hall = new BoxballHall();
        for (int customer = 0; customer < 8; customer++) {
            for (int server = 0; server < 6; server++) {
                hall.setTime(customer, server, 99);
            }
        }
        Check.due("13 times 99", 13 * 99, hall.getLeaving(7, 5));
        Check.due("8 times 99", 8 * 99, hall.getLeaving(7, 0));
        Check.due("6 times 99", 6 * 99, hall.getLeaving(0, 5));
        Check.due("they are sound", true, hall.isSound());
    }

    private static void wrongPlaces() {
        BoxballHall hall = new BoxballHall();
        int[][] wrong = {{-1, 0}, {8, 0}, {0, -1}, {0, 6}, {7, 7}, {MIN, 0}, {MAX, 0}, {0, MIN}, {0, MAX}, {8, 6}};
        for (int[] place : wrong) {
            Check.thrown("setTime at no place", Check.INDEX, () -> hall.setTime(place[0], place[1], 1));
            Check.thrown("setTime at no place, wrong too", Check.INDEX, () -> hall.setTime(place[0], place[1], 100));
            Check.thrown("getLeaving at no place", Check.INDEX, () -> hall.getLeaving(place[0], place[1]));
        }
        Check.due("nothing is told", 0, hall.getLeaving(7, 5));
    }

    private static void wrongTimes() {
        BoxballHall hall = new BoxballHall();
        hall.setTime(7, 5, 9);
        for (int time : new int[] {-1, 100, MIN, MAX}) {
            Check.thrown("the time " + time, Check.ARGUMENT, () -> hall.setTime(7, 5, time));
        }
        Check.due("it stays", 9, hall.getLeaving(7, 5));
    }
}
