import java.util.ArrayList;
import java.util.List;

/** Promises 15 to 21, and what "Terms" says of kept things: pairs, waves, energies and runs of simple lines. */
final class KeptEdges {
    private static final String SIXTY = "1".repeat(60);

    private KeptEdges() {
    }

    static void all() {
        Edges.in("Terms");
        pairs();
        waves();
        energies();
        runs();
        Edges.in("Promise 15");
        countPairs();
        Edges.in("Promise 16");
        countWaves();
        Edges.in("Promise 17");
        getSize();
        Edges.in("Promise 18");
        getEnergy();
        Edges.in("Promise 19");
        countRuns();
        Edges.in("Promise 20");
        getRun();
        Edges.in("Promise 21");
        getPlace();
    }

    private static String pairsOf(String balls, int rounds) {
        BoxballHall hall = Halls.line(balls);
        StringBuilder found = new StringBuilder();
        for (int round = 1; round <= rounds; round++) {
            found.append(hall.countPairs(round)).append(' ');
        }
        return found.toString().trim();
    }

    private static String sizesOf(String balls) {
        BoxballHall hall = Halls.line(balls);
        List<Integer> found = new ArrayList<>();
        for (int wave = 0; wave < hall.countWaves(); wave++) {
            found.add(hall.getSize(wave));
        }
        return found.toString();
    }

    /** The runs as length at place, from the left. */
    private static String runsOf(String balls, int steps) {
        BoxballHall hall = Halls.line(balls);
        List<String> found = new ArrayList<>();
        int count = hall.countRuns(steps);
        for (int run = 0; run < count; run++) {
            found.add(hall.getRun(steps, run) + " at " + hall.getPlace(steps, run));
        }
        return String.join(", ", found);
    }

    private static void pairs() {
        Edges.edge("of simple lines alone, with endless empty boxes behind", () -> {
            Check.due("pairs of a ball in the last box", "1 0", pairsOf("1", 2));
            Check.due("sizes of a full line", "[60]", sizesOf(SIXTY));
            Check.due("energy of a full line", 60, Halls.line(SIXTY).getEnergy(60));
            Check.due("runs of a full line", "60 at 60", runsOf(SIXTY, 1));
            Check.due("runs of a ball in the last box", "1 at 10", runsOf("0000000001", 1));
            BoxballHall shorter = Halls.line(SIXTY);
            Check.due("60 rounds", 1, shorter.countPairs(60));
            Halls.tell(shorter, "111", "001", false);
            Check.due("behind a shorter row nothing is left of a longer one", 1, shorter.countWaves());
            Check.due("nor in its sizes", 1, shorter.getSize(0));
            Check.due("nor in its energies", 1, shorter.getEnergy(99));
            Check.due("nor in its runs", 1, shorter.getRun(99, 0));
        });
        Edges.edge("are removed at once, as they stand side by side by then", () -> {
            Check.due("one in the other", "1 1 0", pairsOf("1100", 3));
            Check.due("side by side", "2 0", pairsOf("1010", 2));
            Check.due("two in one", "2 1 0", pairsOf("110100", 3));
            Check.due("empty boxes ahead and between", "2 0", pairsOf("0010001", 2));
            Check.due("three in each other", "1 1 1 0", pairsOf("111000", 4));
            Check.due("two and one far", "2 1 0", pairsOf("11000000010", 3));
        });
        Edges.edge("the pairs of the round 1, 2 and so on are how many were removed in it", () -> {
            Check.due("of 60 rounds", "1 ".repeat(60) + "0", pairsOf(SIXTY, 61));
            Check.due("of 1 round", "30 0", pairsOf("10".repeat(30), 2));
            Check.due("of falling ones", "3 2 1 0", pairsOf("111000110010", 4));
        });
    }

    private static void waves() {
        Edges.edge("there are as many as pairs of the round 1", () -> {
            for (String row : new String[] {"0", "1", "1100", "1010", "110100", SIXTY, "10".repeat(30), "0".repeat(60)}) {
                BoxballHall hall = Halls.line(row);
                Check.due("waves of " + row, hall.countPairs(1), hall.countWaves());
            }
        });
        Edges.edge("the one of the number j, from 0, being how many rounds have more than j pairs", () -> {
            Check.due("none", "[]", sizesOf("0000"));
            Check.due("one", "[1]", sizesOf("0001"));
            Check.due("alike", "[2, 2]", sizesOf("11001100"));
            Check.due("from the greatest on", "[3, 2, 1]", sizesOf("101100111000"));
            Check.due("one far behind", "[2, 1]", sizesOf("110100"));
            Check.due("rounds of 3, 1 and 1 pairs", "[3, 1, 1]", sizesOf("11011000100"));
        });
    }

    private static String energiesOf(String balls, int most) {
        BoxballHall hall = Halls.line(balls);
        StringBuilder found = new StringBuilder();
        for (int capacity = 1; capacity <= most; capacity++) {
            found.append(hall.getEnergy(capacity)).append(' ');
        }
        return found.toString().trim();
    }

    private static void energies() {
        Edges.edge("going to the right, endlessly, picks up a ball: boxes that have one, and have none behind it", () -> {
            Check.due("of a run of 3", "1 2 3 3", energiesOf("111000", 4));
            Check.due("of a run of 3 at the end", "1 2 3 3", energiesOf("111", 4));
            Check.due("of two runs", "2 3 3", energiesOf("11010", 3));
            Check.due("of balls that stay, as the carrier is full", "1 2 2", energiesOf("011", 3));
            Check.due("of a row that ends with balls", "2 3 3", energiesOf("1011", 3));
            Check.due("of none", "0 0", energiesOf("000", 2));
        });
    }

    private static void runs() {
        Edges.edge("A run is some balls in boxes side by side, with no ball ahead and behind", () -> {
            Check.due("at both ends", "1 at 0, 1 at 4", runsOf("10001", 0));
            Check.due("all boxes", "60 at 0", runsOf(SIXTY, 0));
            Check.due("one empty box between", "2 at 0, 2 at 3", runsOf("11011", 0));
            Check.due("each second box", 30, Halls.line("10".repeat(30)).countRuns(0));
            Check.due("none", "", runsOf("0000", 0));
        });
        Edges.edge("after steps in thought, with a carrier of the capacity 99, on endless boxes", () -> {
            Check.due("behind the last box", "2 at 2", runsOf("11", 1));
            Check.due("far behind", "60 at 5940", runsOf(SIXTY, 99));
            Check.due("a row whose step would be refused", "2 at 2, 1 at 5", runsOf("11001", 1));
            Check.due("the same a step later", "1 at 4, 2 at 6", runsOf("11001", 2));
            BoxballHall hall = Halls.full("11111", "11001", false);
            hall.countRuns(99);
            hall.getRun(99, 0);
            hall.getPlace(99, 0);
            Check.due("in thought", Halls.all(Halls.full("11111", "11001", false)), Halls.all(hall));
        });
        Edges.edge("there are runs, numbered from the left", () -> {
            Check.due("at first", "2 at 0, 1 at 4", runsOf("1100100000", 0));
            Check.due("when they have passed", "1 at 5, 2 at 8", runsOf("1100100000", 3));
        });
    }

    /** Rows that are no simple lines: a ring, and lines of which one box, the first or the last, holds more. */
    private static void noSimpleLine(String call, Check.On on) {
        Check.refused(call + " of a simple ring", Check.REFUSED, () -> Halls.full("111", "100", true), on);
        Check.refused(call + " of a ring", Check.REFUSED, () -> Halls.full("2", "0", true), on);
        Check.refused(call + " of a first box of 2", Check.REFUSED, () -> Halls.full("211", "100", false), on);
        Check.refused(call + " of a last box of 4", Check.REFUSED, () -> Halls.full("114", "100", false), on);
        Check.refused(call + " of one box of 2", Check.REFUSED, () -> Halls.full("2", "0", false), on);
    }

    private static void countPairs() {
        Edges.edge("Returns the pairs of a round", () ->
            Check.due("three rounds", "3 1 1 0", pairsOf("11011000100000000000", 4)));
        Edges.edge("`round`: 1 or more", () -> {
            Check.due("1", 1, Halls.line("1").countPairs(1));
            Check.due("60", 1, Halls.line(SIXTY).countPairs(60));
            Check.due("the greatest number", 0, Halls.line(SIXTY).countPairs(Check.MAX));
        });
        Edges.edge("Returns how many, 0 behind the last one", () -> {
            Check.due("the last one of 2", 1, Halls.line("110010").countPairs(2));
            Check.due("behind it", 0, Halls.line("110010").countPairs(3));
            Check.due("behind 60", 0, Halls.line(SIXTY).countPairs(61));
            Check.due("of no balls", 0, Halls.line("0000").countPairs(1));
        });
        Edges.edge("Throws `IllegalArgumentException` if it is below 1", () -> {
            for (int round : new int[] {0, -1, Check.MIN}) {
                Check.refused("the round " + round, Check.ARGUMENT, Halls::fullLine, hall -> hall.countPairs(round));
            }
        });
        Edges.edge("Throws `UnsupportedOperationException` if the row is no simple line", () ->
            noSimpleLine("countPairs", hall -> hall.countPairs(1)));
    }

    private static void countWaves() {
        Edges.edge("Returns how many waves there are", () -> {
            Check.due("two runs that are one wave each", 2, Halls.line("1100100000").countWaves());
            Check.due("behind steps as many", 2, Halls.line("0000110100").countWaves());
        });
        Edges.edge("Returns how many.", () -> {
            Check.due("none", 0, Halls.line("0").countWaves());
            Check.due("one", 1, Halls.line("1").countWaves());
            Check.due("one of 60", 1, Halls.line(SIXTY).countWaves());
            Check.due("as many as there can be", 30, Halls.line("01".repeat(30)).countWaves());
        });
        Edges.edge("Throws `UnsupportedOperationException` if the row is no simple line", () ->
            noSimpleLine("countWaves", BoxballHall::countWaves));
    }

    private static void getSize() {
        Edges.edge("Returns the size of a wave", () ->
            Check.due("each of them", "[3, 1, 1]", sizesOf("11011000100000000000")));
        Edges.edge("`wave`: the wave, from the greatest one on", () -> {
            BoxballHall hall = Halls.line("10110011100000000000");
            Check.due("the greatest one", 3, hall.getSize(0));
            Check.due("the least one", 1, hall.getSize(2));
        });
        Edges.edge("Returns the size.", () -> {
            Check.due("the least one there is", 1, Halls.line("0001").getSize(0));
            Check.due("the greatest one there is", 60, Halls.line(SIXTY).getSize(0));
        });
        Edges.edge("Throws `UnsupportedOperationException` if the row is no simple line", () -> {
            noSimpleLine("getSize of 0", hall -> hall.getSize(0));
            noSimpleLine("getSize of -1", hall -> hall.getSize(-1));
        });
        Edges.edge("Throws `NoSuchElementException` if there is none", () -> {
            Check.range("wave", 0, 1, Check.NONE, Halls::fullLine, (hall, n) -> hall.getSize(n));
            Check.Maker many = () -> Halls.full(SIXTY, "10".repeat(30), false);
            Check.range("wave", 0, 29, Check.NONE, many, (hall, n) -> hall.getSize(n));
            Check.refused("of no waves", Check.NONE, () -> Halls.full("11", "00", false), hall -> hall.getSize(0));
        });
    }

    private static void getEnergy() {
        Edges.edge("Returns the energy of a capacity", () -> {
            Check.due("less than a size, as much, more", "3 4 5 5", energiesOf("11011000100000000000", 4));
            Check.due("of 59 and a full line", 59, Halls.line(SIXTY).getEnergy(59));
        });
        Edges.edge("`capacity`: 1 to 99", () ->
            Check.range("capacity", 1, 99, Check.ARGUMENT, Halls::fullLine, (hall, n) -> hall.getEnergy(n)));
        Edges.edge("Returns the energy.", () -> {
            Check.due("none", 0, Halls.line("0").getEnergy(99));
            Check.due("of 1, as many as waves", 30, Halls.line("10".repeat(30)).getEnergy(1));
            Check.due("of 99, as many as balls", 60, Halls.line(SIXTY).getEnergy(99));
        });
        Edges.edge("Throws `IllegalArgumentException` if a number is out of range", () ->
            Check.refused("of 0 and a ring", Check.ARGUMENT, () -> Halls.full("11", "10", true), hall -> hall.getEnergy(0)));
        Edges.edge("Throws `UnsupportedOperationException` if the row is no simple line", () -> {
            noSimpleLine("getEnergy of 1", hall -> hall.getEnergy(1));
            noSimpleLine("getEnergy of 99", hall -> hall.getEnergy(99));
        });
    }

    private static void countRuns() {
        Edges.edge("Returns how many runs there are after steps in thought", () -> {
            Check.due("two", 2, Halls.line("1100100000").countRuns(0));
            Check.due("two, while the waves meet", 2, Halls.line("1100100000").countRuns(2));
        });
        Edges.edge("`steps`: 0 to 99", () ->
            Check.range("steps", 0, 99, Check.ARGUMENT, Halls::fullLine, (hall, n) -> hall.countRuns(n)));
        Edges.edge("Returns how many.", () -> {
            Check.due("none", 0, Halls.line("0").countRuns(0));
            Check.due("none at last", 0, Halls.line("0").countRuns(99));
            Check.due("one", 1, Halls.line("1").countRuns(99));
            Check.due("one of all boxes", 1, Halls.line(SIXTY).countRuns(99));
            Check.due("as many as there can be", 30, Halls.line("01".repeat(30)).countRuns(99));
        });
        Edges.edge("Throws `IllegalArgumentException` if a number is out of range", () -> {
            Check.Maker ring = () -> Halls.full("11", "10", true);
            Check.refused("-1 on a ring", Check.ARGUMENT, ring, hall -> hall.countRuns(-1));
            Check.refused("100 on a ring", Check.ARGUMENT, ring, hall -> hall.countRuns(100));
        });
        Edges.edge("Throws `UnsupportedOperationException` if the row is no simple line", () -> {
            noSimpleLine("countRuns of 0", hall -> hall.countRuns(0));
            noSimpleLine("countRuns of 99", hall -> hall.countRuns(99));
        });
    }

    private static void getRun() {
        Edges.edge("Returns the length of a run after steps in thought", () -> {
            Check.due("at first", 2, Halls.line("1100100000").getRun(0, 0));
            Check.due("when they have passed", 1, Halls.line("1100100000").getRun(3, 0));
        });
        Edges.edge("`steps`: 0 to 99", () ->
            Check.range("steps", 0, 99, Check.ARGUMENT, Halls::fullLine, (hall, n) -> hall.getRun(n, 0)));
        Edges.edge("`run`: the run, from the left", () -> {
            Check.due("the first one", 1, Halls.line("0100111011").getRun(0, 0));
            Check.due("the second one", 3, Halls.line("0100111011").getRun(0, 1));
            Check.due("the last one", 2, Halls.line("0100111011").getRun(0, 2));
        });
        Edges.edge("Returns how many balls.", () -> {
            Check.due("one", 1, Halls.line("1").getRun(99, 0));
            Check.due("60", 60, Halls.line(SIXTY).getRun(0, 0));
            Check.due("60 at last", 60, Halls.line(SIXTY).getRun(99, 0));
        });
        Edges.edge("Throws `IllegalArgumentException` if a number is out of range", () -> {
            Check.Maker ring = () -> Halls.full("11", "10", true);
            Check.refused("-1 on a ring, no run", Check.ARGUMENT, ring, hall -> hall.getRun(-1, -1));
            Check.refused("100 on a line, no run", Check.ARGUMENT, Halls::fullLine, hall -> hall.getRun(100, 9));
        });
        Edges.edge("Throws `UnsupportedOperationException` if the row is no simple line", () -> {
            noSimpleLine("getRun 0", hall -> hall.getRun(0, 0));
            noSimpleLine("getRun -1", hall -> hall.getRun(99, -1));
        });
        Edges.edge("Throws `NoSuchElementException` if there is none", () -> {
            Check.range("run", 0, 1, Check.NONE, Halls::fullLine, (hall, n) -> hall.getRun(0, n));
            Check.range("run at last", 0, 1, Check.NONE, Halls::fullLine, (hall, n) -> hall.getRun(99, n));
            Check.refused("of no runs", Check.NONE, () -> Halls.full("11", "00", false), hall -> hall.getRun(0, 0));
        });
    }

    private static void getPlace() {
        Edges.edge("Returns where a run begins after steps in thought", () -> {
            Check.due("at first", 4, Halls.line("1100100000").getPlace(0, 1));
            Check.due("a step later", 5, Halls.line("1100100000").getPlace(1, 1));
            Check.due("when they have passed", 8, Halls.line("1100100000").getPlace(3, 1));
        });
        Edges.edge("`steps`: 0 to 99", () ->
            Check.range("steps", 0, 99, Check.ARGUMENT, Halls::fullLine, (hall, n) -> hall.getPlace(n, 0)));
        Edges.edge("`run`: the run, from the left", () -> {
            Check.due("the first one", 1, Halls.line("0100111011").getPlace(0, 0));
            Check.due("the second one", 4, Halls.line("0100111011").getPlace(0, 1));
            Check.due("the last one", 8, Halls.line("0100111011").getPlace(0, 2));
        });
        Edges.edge("Returns the place, as boxes are numbered, on behind the last one", () -> {
            Check.due("the first box", 0, Halls.line("1").getPlace(0, 0));
            Check.due("the last box", 59, Halls.line("0".repeat(59) + "1").getPlace(0, 0));
            Check.due("the one behind the last one", 60, Halls.line("0".repeat(59) + "1").getPlace(1, 0));
            Check.due("the farthest one there is", 5940, Halls.line(SIXTY).getPlace(99, 0));
        });
        Edges.edge("Throws `IllegalArgumentException` if a number is out of range", () -> {
            Check.Maker ring = () -> Halls.full("11", "10", true);
            Check.refused("-1 on a ring, no run", Check.ARGUMENT, ring, hall -> hall.getPlace(-1, -1));
            Check.refused("100 on a line, no run", Check.ARGUMENT, Halls::fullLine, hall -> hall.getPlace(100, 9));
        });
        Edges.edge("Throws `UnsupportedOperationException` if the row is no simple line", () -> {
            noSimpleLine("getPlace 0", hall -> hall.getPlace(0, 0));
            noSimpleLine("getPlace -1", hall -> hall.getPlace(99, -1));
        });
        Edges.edge("Throws `NoSuchElementException` if there is none", () -> {
            Check.range("run", 0, 1, Check.NONE, Halls::fullLine, (hall, n) -> hall.getPlace(0, n));
            Check.range("run at last", 0, 1, Check.NONE, Halls::fullLine, (hall, n) -> hall.getPlace(99, n));
            Check.refused("of no runs", Check.NONE, () -> Halls.full("11", "00", false), hall -> hall.getPlace(0, 0));
        });
    }
}
