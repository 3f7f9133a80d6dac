/** Promises 22 to 28: exchanged pieces and chosen waves. */
public final class ExchangesTest {
    private static final int MIN = Integer.MIN_VALUE;
    private static final int MAX = Integer.MAX_VALUE;

    public static void main(String[] args) {
        exchange();
        exchangesAsSteps();
        exchangeWrong();
        turnRound();
        bothOrdersAlike();
        turnRoundWrong();
        addWave();
        addWaveWrong();
        clearWaves();
        getHeight();
        wrongPlacesAndTimes();
        getChosen();
        getChosenAtTheEnds();
        takeChosen();
        chosenRowsMoveBySteps();
        takeChosenWrong();
        Check.end("ExchangesTest");
    }

    private static BoxballHall chosen(int... waves) {
        BoxballHall hall = new BoxballHall();
        for (int i = 0; i < waves.length; i += 2) {
            hall.addWave(waves[i], waves[i + 1]);
        }
        return hall;
    }

    private static void areExchanged(int capacity, int balls, int other, int others, int first, int second) {
        BoxballHall hall = new BoxballHall();
        String call = "exchange " + capacity + " " + balls + " " + other + " " + others;
        Check.due(call + ", first", first, hall.exchange(capacity, balls, other, others, true));
        Check.due(call + ", second", second, hall.exchange(capacity, balls, other, others, false));
    }

    private static void exchange() {
        areExchanged(3, 2, 2, 1, 1, 2);
        areExchanged(1, 1, 1, 1, 1, 1);
        areExchanged(1, 0, 1, 1, 0, 1);
        areExchanged(9, 9, 1, 0, 1, 8);
        areExchanged(1, 0, 9, 9, 8, 1);
        areExchanged(9, 9, 9, 9, 9, 9);
        areExchanged(9, 0, 9, 0, 0, 0);
        areExchanged(2, 1, 3, 3, 2, 2);
        areExchanged(5, 3, 4, 2, 2, 3);
    }

    /** A carrier that comes to the last box with balls of the first one. */
    private static void exchangesAsSteps() {
        for (int limit = 1; limit <= 9; limit++) {
            for (int capacity = 1; capacity <= 4; capacity++) {
                for (int balls = 0; balls <= capacity; balls++) {
                    int load = Math.min(limit, 3);
                    BoxballHall hall = Halls.row("4" + capacity + "44444", load + "" + balls + "00000", false);
                    hall.step(limit);
                    int due = hall.exchange(limit, load, capacity, balls, true);
                    Check.due("a box of " + capacity + " with " + balls + " behind " + limit, due, hall.getBalls(1));
                }
            }
        }
    }

    private static void exchangeWrong() {
        BoxballHall hall = new BoxballHall();
        int[][] wrong = {{0, 0, 1, 0}, {10, 0, 1, 0}, {1, 0, 0, 0}, {1, 0, 10, 0}, {3, 4, 2, 1}, {3, -1, 2, 1},
            {3, 2, 2, 3}, {3, 2, 2, -1}, {MIN, 0, 1, 0}, {MAX, MAX, 1, 0}, {1, MIN, 1, 0}, {1, 0, MAX, 0}, {1, 0, 1, MIN},
            {1, 0, MIN, 0}, {1, 0, 1, MAX}, {-1, -1, 1, 0}};
        for (int[] given : wrong) {
            for (boolean isFirst : new boolean[] {true, false}) {
                Check.thrown("exchange " + java.util.Arrays.toString(given), Check.ARGUMENT,
                        () -> hall.exchange(given[0], given[1], given[2], given[3], isFirst));
            }
        }
    }

    private static void turnRound() {
        BoxballHall hall = new BoxballHall();
        Check.due("321 210", 21, hall.turnRound(321, 210, true));
        Check.due("111 100", 100, hall.turnRound(111, 100, true));
        Check.due("111 001", 1, hall.turnRound(111, 1, false));
        Check.due("999 999", 999, hall.turnRound(999, 999, true));
        Check.due("999 000", 0, hall.turnRound(999, 0, false));
        // 9 with 9, 1 with 0: the box 1 takes one; 8 are left, and the last box takes 5 of them.
        Check.due("915 900", 513, hall.turnRound(915, 900, true));
        Check.due("915 900 from the end", 513, hall.turnRound(915, 900, false));
    }

    private static void bothOrdersAlike() {
        int unlike = 0;
        int lost = 0;
        for (int rooms = 111; rooms <= 999; rooms++) {
            for (int balls = 0; balls <= 999; balls += 3) {
                if (areWhole(rooms, balls)) {
                    BoxballHall hall = new BoxballHall();
                    int turned = hall.turnRound(rooms, balls, true);
                    unlike += turned == hall.turnRound(rooms, balls, false) ? 0 : 1;
                    lost += sum(turned) == sum(balls) && turned % 10 <= rooms / 100 && turned / 100 <= rooms % 10 ? 0 : 1;
                }
            }
        }
        Check.due("pieces that are not turned alike", 0, unlike);
        Check.due("pieces whose balls are lost", 0, lost);
    }

    private static boolean areWhole(int rooms, int balls) {
        boolean isWhole = true;
        for (int digit = 1; digit <= 100; digit *= 10) {
            isWhole &= rooms / digit % 10 > 0 && balls / digit % 10 <= rooms / digit % 10;
        }
        return isWhole;
    }

    private static int sum(int digits) {
        return digits / 100 + digits / 10 % 10 + digits % 10;
    }

    private static void turnRoundWrong() {
        BoxballHall hall = new BoxballHall();
        int[][] wrong = {{301, 0}, {320, 0}, {21, 0}, {110, 0}, {100, 0}, {99, 0}, {1111, 0}, {1000, 0}, {0, 0},
            {-111, 0}, {111, -1}, {111, 1000}, {111, 2000}, {321, 410}, {321, 230}, {321, 212}, {MIN, 0}, {MAX, 0},
            {999, MIN}, {999, MAX}, {1321, 210}, {321, 1210}};
        for (int[] given : wrong) {
            Check.thrown("turnRound " + given[0] + " " + given[1], Check.ARGUMENT,
                    () -> hall.turnRound(given[0], given[1], true));
            Check.thrown("turnRound " + given[0] + " " + given[1] + " from the end", Check.ARGUMENT,
                    () -> hall.turnRound(given[0], given[1], false));
        }
    }

    private static void addWave() {
        BoxballHall hall = new BoxballHall();
        Check.due("the first wave", 1, hall.addWave(1, -60));
        Check.due("the second wave", 2, hall.addWave(9, 60));
        Check.due("the third wave", 3, hall.addWave(9, 60));
        Check.due("the fourth wave", 4, hall.addWave(5, 0));
        Check.due("the fifth wave", 5, hall.addWave(1, 1));
        Check.thrown("a sixth one", Check.STATE, () -> hall.addWave(1, 1));
        Check.thrown("a sixth one, wrong too", Check.ARGUMENT, () -> hall.addWave(0, 1));
        Check.thrown("a sixth one, wrong too", Check.ARGUMENT, () -> hall.addWave(1, 61));
        hall.setRow(5, 1, false);
        Check.due("they stay when a row is told", 5, hall.clearWaves());
    }

    private static void addWaveWrong() {
        BoxballHall hall = new BoxballHall();
        for (int size : new int[] {0, 10, -1, MIN, MAX}) {
            Check.thrown("a wave of the size " + size, Check.ARGUMENT, () -> hall.addWave(size, 0));
        }
        for (int phase : new int[] {-61, 61, MIN, MAX}) {
            Check.thrown("a wave of the phase " + phase, Check.ARGUMENT, () -> hall.addWave(1, phase));
        }
        Check.due("none is added", 0, hall.clearWaves());
    }

    private static void clearWaves() {
        BoxballHall hall = chosen(2, 2, 1, 6);
        Check.due("waves taken away", 2, hall.clearWaves());
        Check.due("the height of none", 0, hall.getHeight(0, 9));
        Check.due("none are left", 0, hall.clearWaves());
        Check.due("a first one again", 1, hall.addWave(3, 4));
        Check.due("its height", 4, hall.getHeight(0, 0));
    }

    private static void getHeight() {
        BoxballHall hall = chosen(3, 3, 1, 12, 2, 9);
        Check.due("the second and the third one", 19, hall.getHeight(0, 0));
        Check.due("all three", 43, hall.getHeight(-5, 2));
        Check.due("none", 0, hall.getHeight(999, 99));
        Check.due("none, long ago", 0, hall.getHeight(-5, -99));
        Check.due("the first one at its end", 0, hall.getHeight(300, 99));
        Check.due("the first one alone", 10, hall.getHeight(290, 99));
        BoxballHall five = chosen(9, 60, 9, 60, 9, 60, 9, 60, 9, 60);
        Check.due("all five, at the ends", 5 * (9 * 99 + 60 + 999) - 10 * 18, five.getHeight(-999, 99));
        Check.due("lone waves are the greatest here", 2, chosen(9, 2, 9, 1).getHeight(0, 0));
        Check.due("none at all", 0, new BoxballHall().getHeight(0, 0));
    }

    private static void wrongPlacesAndTimes() {
        BoxballHall hall = chosen(3, 3);
        for (int place : new int[] {-1000, 1000, MIN, MAX}) {
            Check.thrown("the height at " + place, Check.ARGUMENT, () -> hall.getHeight(place, 0));
            Check.thrown("the balls at " + place, Check.ARGUMENT, () -> hall.getChosen(place, 0));
        }
        for (int time : new int[] {-100, 100, MIN, MAX}) {
            Check.thrown("the height at the time " + time, Check.ARGUMENT, () -> hall.getHeight(0, time));
            Check.thrown("the balls at the time " + time, Check.ARGUMENT, () -> hall.getChosen(0, time));
        }
    }

    private static String balls(BoxballHall hall, int from, int to, int time) {
        StringBuilder balls = new StringBuilder();
        for (int place = from; place <= to; place++) {
            balls.append(hall.getChosen(place, time));
        }
        return balls.toString();
    }

    private static void getChosen() {
        BoxballHall two = chosen(2, 2, 1, 6);
        Check.due("two waves at the time -1", "0011000001000", balls(two, -4, 8, -1));
        Check.due("two waves at the time 0", "0000110000100", balls(two, -4, 8, 0));
        Check.due("two waves at the time 1", "0000001100010", balls(two, -4, 8, 1));
        Check.due("two waves that meet", "0000000000110100", balls(two, -4, 11, 3));
        BoxballHall one = chosen(3, 0);
        Check.due("a wave of 3 at 0", "0011100", balls(one, -2, 4, 0));
        Check.due("a wave of 3 at the next time", "0000011100", balls(one, -2, 7, 1));
        Check.due("a wave of 3 long ago", "0111000", balls(one, -298, -292, -99));
        Check.due("the farthest place", 0, one.getChosen(999, 99));
        Check.due("the farthest place to the left", 0, one.getChosen(-999, -99));
        Check.due("two waves alike", "0000101000", balls(chosen(1, 0, 1, 0), -6, 3, 0));
        Check.due("no wave", 0, new BoxballHall().getChosen(0, 0));
    }

    private static void getChosenAtTheEnds() {
        BoxballHall hall = chosen(9, 60);
        Check.due("the least place and time", 0, hall.getChosen(-999, -99));
        Check.due("the one ahead at the last time", 0, hall.getChosen(950, 99));
        Check.due("the first one of 9", 1, hall.getChosen(951, 99));
        Check.due("the last one of 9", 1, hall.getChosen(959, 99));
        Check.due("the one behind", 0, hall.getChosen(960, 99));
    }

    private static void takeChosen() {
        BoxballHall hall = chosen(2, 2, 1, 6);
        hall.setRow(12, 3, true);
        hall.setBalls(11, 3);
        hall.step(9);
        Check.due("balls of a chosen row", 3, hall.takeChosen(0));
        Check.due("a simple line of as many boxes", Halls.checksum("1".repeat(12), "110000100000", 0), hall.checksum());
        Check.due("a line", 2, hall.countWaves());
        Check.due("the waves stay chosen", 3, hall.takeChosen(3));
        Check.due("three steps later", "000000110100", Halls.balls(hall));
        Check.due("waves that are not there yet", 0, hall.takeChosen(-99));
        Check.due("waves that are gone by then", 0, hall.takeChosen(99));
        Check.due("no wave is told of", 2, hall.clearWaves());
        hall.setBalls(0, 1);
        Check.due("a row of no waves", 0, hall.takeChosen(0));
        Check.due("it is empty", "000000000000", Halls.balls(hall));
        BoxballHall cut = chosen(9, 0);
        cut.setRow(4, 1, false);
        Check.due("what stands behind the last box is cut off", 4, cut.takeChosen(0));
        BoxballHall longest = chosen(9, 50, 9, 20);
        longest.setRow(60, 4, true);
        Check.due("60 boxes", 18, longest.takeChosen(0));
        Check.due("9 of them at the end", 1, longest.getBalls(58));
        Check.due("and none behind", 0, longest.getBalls(59));
    }

    /** Chosen waves pass through one another as those of steps do. */
    private static void chosenRowsMoveBySteps() {
        int[][] waves = {{3, 15, 2, 18, 1, 20}, {9, 9, 1, 20}, {4, 24, 4, 26, 2, 30, 1, 28, 1, 31}, {2, 2, 1, 6}};
        for (int[] told : waves) {
            BoxballHall stepped = chosen(told);
            BoxballHall taken = chosen(told);
            stepped.setRow(60, 1, false);
            taken.setRow(60, 1, false);
            stepped.takeChosen(0);
            for (int time = 1; time <= 3; time++) {
                stepped.step(99);
                taken.takeChosen(time);
                Check.due("the chosen row at the time " + time, Halls.balls(stepped), Halls.balls(taken));
            }
            Check.due("as many waves as are chosen", told.length / 2, taken.countWaves());
        }
    }

    /** Rows that would not have 0 or 1 somewhere are not known: whatever is chosen, they come out as 0 and 1. */
    private static void takeChosenWrong() {
        BoxballHall hall = chosen(2, 2, 1, 6);
        hall.step(1);
        long sum = hall.checksum();
        for (int time : new int[] {-100, 100, MIN, MAX}) {
            Check.thrown("takeChosen " + time, Check.ARGUMENT, () -> hall.takeChosen(time));
        }
        Check.due("it changes nothing", sum, hall.checksum());
    }
}
