/** Promises 15 to 21: pairs, waves, energies and runs of simple lines. */
public final class KeptThingsTest {
    private static final int MIN = Integer.MIN_VALUE;
    private static final int MAX = Integer.MAX_VALUE;
    private static final String ROW = "11011000100000000000";

    public static void main(String[] args) {
        countPairs();
        countPairsWrong();
        rowsOneBehindTheOther();
        waves();
        wavesWrong();
        getEnergy();
        getEnergyWrong();
        runsAtFirst();
        runsAfterSteps();
        farRuns();
        runsWrong();
        allIsInThought();
        stepsKeepThem();
        Check.end("KeptThingsTest");
    }

    private static BoxballHall[] noSimpleLines() {
        return new BoxballHall[] {Halls.ring("110"), Halls.row("111112", "110000", false), Halls.row("2", "0", true),
            Halls.row("211111", "110000", false)};
    }

    private static void arePairs(String balls, int... due) {
        BoxballHall hall = Halls.line(balls);
        for (int round = 1; round <= due.length; round++) {
            Check.due("pairs of the round " + round + " of " + balls, due[round - 1], hall.countPairs(round));
        }
        Check.due("behind the last round of " + balls, 0, hall.countPairs(due.length + 1));
        Check.due("far behind", 0, hall.countPairs(MAX));
    }

    private static void countPairs() {
        // 11011000100.. loses three pairs, then 1100 loses one and one more.
        arePairs(ROW, 3, 1, 1);
        arePairs("1100100000", 2, 1);
        arePairs("0000");
        arePairs("1", 1);
        arePairs("111", 1, 1, 1);
        arePairs("10101", 3);
        arePairs("1".repeat(60), ones(60));
        arePairs("10".repeat(30), 30);
    }

    /** What was looked at ahead must not be seen in a later, shorter row. */
    private static void rowsOneBehindTheOther() {
        BoxballHall hall = new BoxballHall();
        String[] rows = {"1".repeat(60), "000001", "00001", "0001", "11", "1", "0", "1100100000"};
        int[] waves = {1, 1, 1, 1, 1, 1, 0, 2};
        int[] energies = {60, 1, 1, 1, 2, 1, 0, 3};
        for (int i = 0; i < rows.length; i++) {
            Halls.tell(hall, "1".repeat(rows[i].length()), rows[i], false);
            Check.due("waves of " + rows[i], waves[i], hall.countWaves());
            Check.due("energy of " + rows[i], energies[i], hall.getEnergy(99));
            Check.due("runs of " + rows[i], waves[i], hall.countRuns(99));
            Check.due("pairs of the round 3 of " + rows[i], i == 0 ? 1 : 0, hall.countPairs(3));
        }
    }

    private static int[] ones(int count) {
        int[] ones = new int[count];
        java.util.Arrays.fill(ones, 1);
        return ones;
    }

    private static void countPairsWrong() {
        for (int round : new int[] {0, -1, MIN}) {
            Check.thrown("the round " + round, Check.ARGUMENT, () -> Halls.line(ROW).countPairs(round));
            Check.thrown("the round " + round + " of a ring", Check.ARGUMENT, () -> Halls.ring("110").countPairs(round));
        }
        for (BoxballHall hall : noSimpleLines()) {
            Check.thrown("pairs of no simple line", Check.REFUSED, () -> hall.countPairs(1));
        }
    }

    private static void areSizes(String balls, int... due) {
        BoxballHall hall = Halls.line(balls);
        Check.due("waves of " + balls, due.length, hall.countWaves());
        for (int wave = 0; wave < due.length; wave++) {
            Check.due("size " + wave + " of " + balls, due[wave], hall.getSize(wave));
        }
        for (int wave : new int[] {-1, due.length, MIN, MAX}) {
            Check.thrown("the wave " + wave + " of " + balls, Check.NONE, () -> hall.getSize(wave));
        }
    }

    private static void waves() {
        areSizes(ROW, 3, 1, 1);
        areSizes("1100100000", 2, 1);
        areSizes("0");
        areSizes("1", 1);
        areSizes("1".repeat(60), 60);
        areSizes("111000110010", 3, 2, 1);
        areSizes("11001100", 2, 2);
        areSizes("1110100000", 3, 1);
    }

    private static void wavesWrong() {
        for (BoxballHall hall : noSimpleLines()) {
            Check.thrown("waves of no simple line", Check.REFUSED, hall::countWaves);
            Check.thrown("a size of no simple line", Check.REFUSED, () -> hall.getSize(0));
            Check.thrown("no size of no simple line", Check.REFUSED, () -> hall.getSize(-1));
        }
        BoxballHall again = Halls.row("12", "10", false);
        again.setCapacity(1, 1);
        Check.due("simple again", 1, again.countWaves());
    }

    private static void getEnergy() {
        int[] due = {3, 4, 5, 5, 5};
        BoxballHall hall = Halls.line(ROW);
        for (int capacity = 1; capacity <= due.length; capacity++) {
            Check.due("energy of " + capacity, due[capacity - 1], hall.getEnergy(capacity));
        }
        Check.due("energy of 99", 5, hall.getEnergy(99));
        BoxballHall full = Halls.line("1".repeat(60));
        Check.due("energy of a full line, endlessly", 60, full.getEnergy(99));
        Check.due("energy of a full line with 59", 59, full.getEnergy(59));
        Check.due("energy of a full line with 1", 1, full.getEnergy(1));
        Check.due("energy of nothing", 0, Halls.line("000").getEnergy(1));
    }

    private static void getEnergyWrong() {
        for (int capacity : new int[] {0, 100, -1, MIN, MAX}) {
            Check.thrown("energy of " + capacity, Check.ARGUMENT, () -> Halls.line(ROW).getEnergy(capacity));
            Check.thrown("energy of " + capacity + " on a ring", Check.ARGUMENT, () -> Halls.ring("1").getEnergy(capacity));
        }
        for (BoxballHall hall : noSimpleLines()) {
            Check.thrown("energy of no simple line", Check.REFUSED, () -> hall.getEnergy(1));
        }
    }

    /** Runs are told as place and length, one after the other. */
    private static void areRuns(BoxballHall hall, int steps, int... due) {
        Check.due("runs after " + steps, due.length / 2, hall.countRuns(steps));
        for (int run = 0; run < due.length / 2; run++) {
            Check.due("place of " + run + " after " + steps, due[2 * run], hall.getPlace(steps, run));
            Check.due("length of " + run + " after " + steps, due[2 * run + 1], hall.getRun(steps, run));
        }
        for (int run : new int[] {-1, due.length / 2, MIN, MAX}) {
            Check.thrown("length of the run " + run, Check.NONE, () -> hall.getRun(steps, run));
            Check.thrown("place of the run " + run, Check.NONE, () -> hall.getPlace(steps, run));
        }
    }

    private static void runsAtFirst() {
        areRuns(Halls.line(ROW), 0, 0, 2, 3, 2, 8, 1);
        areRuns(Halls.line("0000"), 0);
        areRuns(Halls.line("1"), 0, 0, 1);
        areRuns(Halls.line("0110100001"), 0, 1, 2, 4, 1, 9, 1);
        areRuns(Halls.line("1".repeat(60)), 0, 0, 60);
    }

    private static void runsAfterSteps() {
        areRuns(Halls.line("1100100000"), 1, 2, 2, 5, 1);
        areRuns(Halls.line("1100100000"), 2, 4, 1, 6, 2);
        areRuns(Halls.line("1100100000"), 3, 5, 1, 8, 2);
        areRuns(Halls.line("0000000011"), 3, 14, 2);
        areRuns(Halls.line("0000"), 99);
    }

    private static void farRuns() {
        areRuns(Halls.line("1".repeat(60)), 1, 60, 60);
        areRuns(Halls.line("1".repeat(60)), 99, 5940, 60);
        areRuns(Halls.line("0".repeat(59) + "1"), 99, 158, 1);
        // The greater wave gains four boxes by passing, the smaller one loses as many: 2 * 99 + 2, 10 + 99 - 2.
        areRuns(Halls.line("1100000000" + "1"), 99, 107, 1, 200, 2);
    }

    private static void runsWrong() {
        for (int steps : new int[] {-1, 100, MIN, MAX}) {
            Check.thrown("countRuns of " + steps, Check.ARGUMENT, () -> Halls.line(ROW).countRuns(steps));
            Check.thrown("countRuns of " + steps + " on a ring", Check.ARGUMENT, () -> Halls.ring("1").countRuns(steps));
            Check.thrown("getRun of " + steps, Check.ARGUMENT, () -> Halls.line(ROW).getRun(steps, -1));
            Check.thrown("getRun of " + steps + " on a ring", Check.ARGUMENT, () -> Halls.ring("1").getRun(steps, 0));
            Check.thrown("getPlace of " + steps, Check.ARGUMENT, () -> Halls.line(ROW).getPlace(steps, -1));
            Check.thrown("getPlace of " + steps + " on a ring", Check.ARGUMENT, () -> Halls.ring("1").getPlace(steps, 0));
        }
        for (BoxballHall hall : noSimpleLines()) {
            Check.thrown("runs of no simple line", Check.REFUSED, () -> hall.countRuns(0));
            Check.thrown("no run of no simple line", Check.REFUSED, () -> hall.getRun(0, -1));
            Check.thrown("no place of no simple line", Check.REFUSED, () -> hall.getPlace(0, -1));
        }
    }

    private static void allIsInThought() {
        BoxballHall hall = Halls.line(ROW);
        hall.countRuns(99);
        hall.getPlace(50, 0);
        hall.getRun(7, 0);
        hall.getEnergy(2);
        hall.countPairs(2);
        Check.due("the row stays", Halls.checksum("1".repeat(20), ROW, 0), hall.checksum());
    }

    private static void stepsKeepThem() {
        BoxballHall hall = Halls.line("1101100010000000000000000000");
        for (int capacity = 1; capacity <= 4; capacity++) {
            hall.step(capacity);
            Check.due("pairs 1", 3, hall.countPairs(1));
            Check.due("pairs 2", 1, hall.countPairs(2));
            Check.due("pairs 3", 1, hall.countPairs(3));
            Check.due("energy of 2", 4, hall.getEnergy(2));
        }
    }
}
