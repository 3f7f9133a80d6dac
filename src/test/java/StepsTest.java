/** Promises 7 to 14: steps, what they keep, and what is thought of them. */
public final class StepsTest {
    private static final int MIN = Integer.MIN_VALUE;
    private static final int MAX = Integer.MAX_VALUE;
    private static final int[] NO_CARRIER = {0, 100, -1, MIN, MAX};

    public static void main(String[] args) {
        stepOnLines();
        stepOnMixedLines();
        stepOnRings();
        stepOnRingsThatTurnCarriers();
        stepRefused();
        stepBack();
        stepBackRefused();
        run();
        runWrong();
        countKept();
        keptTillAnotherRow();
        getPast();
        undo();
        undoGivesCapacitiesBack();
        commute();
        commuteWrong();
        getPeriod();
        longestPeriod();
        getPeriodWrong();
        Check.end("StepsTest");
    }

    private static void isStep(BoxballHall hall, int capacity, int most, String behind) {
        Check.due("most of a step of " + capacity + " to " + behind, most, hall.step(capacity));
        Check.due("balls behind a step", behind, Halls.balls(hall));
    }

    private static void isStepBack(BoxballHall hall, int capacity, int most, String behind) {
        Check.due("most of a step back of " + capacity + " to " + behind, most, hall.stepBack(capacity));
        Check.due("balls behind a step back", behind, Halls.balls(hall));
    }

    private static void stepOnLines() {
        isStep(Halls.line("1100100000"), 99, 2, "0011010000");
        isStep(Halls.line("1101000000"), 99, 2, "0010110000");
        isStep(Halls.line("1101000000"), 1, 1, "0110100000");
        isStep(Halls.line("1110000000"), 2, 2, "0011100000");
        isStep(Halls.line("1111000000"), 3, 3, "0001111000");
        isStep(Halls.line("0000000000"), 99, 0, "0000000000");
        isStep(Halls.line("0"), 1, 0, "0");
        isStep(Halls.line("10"), 1, 1, "01");
        isStep(Halls.line("1".repeat(30) + "0".repeat(30)), 99, 30, "0".repeat(30) + "1".repeat(30));
    }

    private static void stepOnMixedLines() {
        isStep(Halls.row("222", "200", false), 9, 2, "020");
        isStep(Halls.row("222", "200", false), 1, 1, "110");
        isStep(Halls.row("4141", "3000", false), 9, 3, "0120");
        isStep(Halls.row("4141", "3000", false), 2, 2, "1110");
        isStep(Halls.row("3333", "2100", false), 3, 2, "0210");
        isStep(Halls.row("44444", "43000", false), 5, 4, "03400");
        isStep(Halls.row("22", "20", false), 9, 2, "02");
    }

    private static void stepOnRings() {
        BoxballHall ring = Halls.ring("11000");
        isStep(ring, 9, 2, "00110");
        isStep(ring, 9, 2, "10001");
        isStep(ring, 9, 2, "01100");
        isStep(Halls.ring("0001100000"), 9, 2, "0000011000");
        isStep(Halls.ring("00011"), 9, 2, "11000");
        isStep(Halls.ring("111111"), 1, 1, "111111");
        isStep(Halls.ring("0"), 5, 0, "0");
        isStep(Halls.ring("1010"), 9, 1, "0101");
        isStep(Halls.row("222222", "200100", true), 3, 2, "020010");
        isStep(Halls.row("222222", "000002", true), 9, 2, "200000");
    }

    /** Each of these boxes turns a carrier of 1 from empty to full, and back: so it matters how it begins. */
    private static void stepOnRingsThatTurnCarriers() {
        isStep(Halls.row("33", "11", true), 1, 1, "02");
        isStepBack(Halls.row("33", "11", true), 1, 1, "20");
        BoxballHall odd = Halls.row("3", "1", true);
        Check.thrown("one turn is not enough", Check.REFUSED, () -> odd.step(1));
        Check.thrown("one turn backward", Check.REFUSED, () -> odd.stepBack(1));
        Check.due("nothing is kept", 0, odd.countKept());
        BoxballHall unlike = Halls.row("22", "02", true);
        isStep(unlike, 1, 1, "11");
        isStepBack(unlike, 1, 1, "20");
        isStep(Halls.row("44", "22", true), 1, 1, "13");
        isStep(Halls.row("44", "22", true), 9, 2, "22");
        isStep(Halls.row("44", "13", true), 9, 3, "31");
    }

    private static void stepRefused() {
        BoxballHall line = Halls.line("0000000001");
        Check.thrown("a line that does not end empty", Check.REFUSED, () -> line.step(1));
        Check.due("it changes nothing", Halls.checksum("1111111111", "0000000001", 0), line.checksum());
        Check.thrown("one that nearly does", Check.REFUSED, () -> Halls.line("1100011100").step(9));
        BoxballHall full = Halls.ring("11100");
        Check.thrown("a ring that is too full", Check.REFUSED, () -> full.step(9));
        Check.due("it changes nothing", Halls.checksum("11111", "11100", 0), full.checksum());
        isStep(full, 1, 1, "01110");
        for (int capacity : NO_CARRIER) {
            Check.thrown("step of " + capacity, Check.ARGUMENT, () -> line.step(capacity));
        }
        Check.due("nothing is kept of what is refused", 0, line.countKept());
    }

    private static void stepBack() {
        isStepBack(Halls.line("0011010000"), 99, 2, "1100100000");
        isStepBack(Halls.line("0011100000"), 2, 2, "1110000000");
        isStepBack(Halls.line("01"), 1, 1, "10");
        isStepBack(Halls.row("4141", "1110", false), 2, 2, "3000");
        isStepBack(Halls.row("4141", "0120", false), 9, 3, "3000");
        isStepBack(Halls.ring("11000"), 9, 2, "00011");
        isStepBack(Halls.ring("10001"), 9, 2, "00110");
        BoxballHall there = Halls.row("3121432", "1101000", true);
        String before = Halls.balls(there);
        there.step(4);
        Check.due("it moved", false, before.equals(Halls.balls(there)));
        there.stepBack(4);
        Check.due("a step and one back", before, Halls.balls(there));
        Check.due("both are kept", 2, there.countKept());
    }

    private static void stepBackRefused() {
        BoxballHall line = Halls.line("1000000000");
        Check.thrown("a line that does not end empty", Check.REFUSED, () -> line.stepBack(1));
        Check.due("it changes nothing", Halls.checksum("1111111111", "1000000000", 0), line.checksum());
        Check.thrown("a ring that is too full", Check.REFUSED, () -> Halls.ring("11100").stepBack(9));
        for (int capacity : NO_CARRIER) {
            Check.thrown("stepBack of " + capacity, Check.ARGUMENT, () -> line.stepBack(capacity));
        }
    }

    private static void run() {
        BoxballHall line = Halls.line("1100000000");
        Check.due("steps till the end", 4, line.run(99, 9));
        Check.due("behind them", "0000000011", Halls.balls(line));
        Check.due("rows kept of them", 4, line.countKept());
        Check.due("no step more", 0, line.run(1, 9));
        Check.due("nothing is kept of none", 4, line.countKept());
        BoxballHall few = Halls.line("1100000000");
        Check.due("as many as are asked for", 3, few.run(3, 9));
        Check.due("behind 3", "0000001100", Halls.balls(few));
        BoxballHall ring = Halls.ring("11000");
        Check.due("as many as can be on a ring", 99, ring.run(99, 99));
        Check.due("the last 8 of 99", 8, ring.countKept());
        Check.due("behind 99 steps of 2 boxes", "00011", Halls.balls(ring));
        Check.due("steps of 1", 8, Halls.line("1100000000").run(99, 1));
        Check.due("a ring that is refused later", 2, Halls.row("111", "110", true).run(99, 2));
    }

    private static void runWrong() {
        BoxballHall line = Halls.line("1100000000");
        for (int steps : new int[] {0, 100, -1, MIN, MAX}) {
            Check.thrown("run of " + steps, Check.ARGUMENT, () -> line.run(steps, 9));
        }
        for (int capacity : NO_CARRIER) {
            Check.thrown("run with " + capacity, Check.ARGUMENT, () -> line.run(1, capacity));
        }
        Check.due("it changes nothing", Halls.checksum("1111111111", "1100000000", 0), line.checksum());
    }

    private static void countKept() {
        BoxballHall ring = Halls.ring("11000");
        for (int steps = 1; steps <= 10; steps++) {
            if (steps % 2 == 0) {
                ring.step(9);
            } else {
                ring.stepBack(1);
            }
            Check.due("kept behind " + steps, Math.min(steps, 8), ring.countKept());
        }
    }

    private static void keptTillAnotherRow() {
        BoxballHall ring = Halls.ring("110000");
        ring.step(9);
        ring.move(184);
        ring.setCapacity(0, 2);
        ring.setBalls(0, 2);
        Check.due("boxes and laws take no row away, and keep none", 1, ring.countKept());
        ring.makeRow(6, 0);
        Check.due("none is kept of a row that is made anew", 0, ring.countKept());
        BoxballHall chosen = Halls.line("110000");
        chosen.step(9);
        chosen.takeChosen(0);
        Check.due("none is kept of a row that is chosen", 0, chosen.countKept());
        BoxballHall told = Halls.line("110000");
        told.step(9);
        told.setRow(6, 1, false);
        Check.due("none is kept of a row that is told", 0, told.countKept());
        Check.thrown("nor to be given back", Check.NONE, told::undo);
        BoxballHall thought = Halls.ring("110000");
        thought.commute(1, 2);
        thought.getPeriod(9);
        Check.due("steps in thought keep none", 0, thought.countKept());
    }

    private static void getPast() {
        BoxballHall ring = Halls.ring("1100000000000000000000");
        String[] rows = new String[12];
        for (int steps = 0; steps < 10; steps++) {
            rows[steps] = Halls.balls(ring);
            ring.step(99);
        }
        for (int ago = 1; ago <= 8; ago++) {
            Check.due(ago + " steps ago", rows[10 - ago], Halls.past(ring, ago));
        }
        for (int steps : new int[] {0, 9, -1, MIN, MAX}) {
            Check.thrown("getPast " + steps, Check.NONE, () -> ring.getPast(steps, 0));
            Check.thrown("getPast " + steps + " of no box", Check.NONE, () -> ring.getPast(steps, 22));
        }
        for (int box : new int[] {-1, 22, 60, MIN, MAX}) {
            Check.thrown("getPast of the box " + box, Check.INDEX, () -> ring.getPast(8, box));
        }
        Check.thrown("none is kept", Check.NONE, () -> new BoxballHall().getPast(1, 0));
    }

    private static void undo() {
        BoxballHall ring = Halls.ring("11000000000000000000");
        for (int steps = 0; steps < 12; steps++) {
            ring.step(99);
        }
        for (int left = 7; left >= 0; left--) {
            Check.due("kept behind an undo", left, ring.undo());
        }
        Check.due("8 steps of 12 taken back", "00000000110000000000", Halls.balls(ring));
        long sum = ring.checksum();
        Check.thrown("none is kept", Check.NONE, ring::undo);
        Check.due("it changes nothing", sum, ring.checksum());
        ring.step(99);
        ring.step(1);
        ring.undo();
        Check.due("the one ahead of that stays kept", "00000000110000000000", Halls.past(ring, 1));
        ring.stepBack(99);
        Check.due("steps are kept behind an undo", 2, ring.countKept());
        Check.due("the last row", "00000000001100000000", Halls.past(ring, 1));
        Check.due("kept behind an undo", 1, ring.undo());
        Check.due("kept behind an undo", 0, ring.undo());
        Check.due("back at that row", "00000000110000000000", Halls.balls(ring));
    }

    private static void undoGivesCapacitiesBack() {
        BoxballHall line = Halls.row("1234", "1200", false);
        line.step(9);
        line.setCapacity(0, 4);
        line.setCapacity(3, 1);
        line.setBalls(0, 4);
        Check.due("undo", 0, line.undo());
        Check.due("capacities and balls", Halls.checksum("1234", "1200", 0), line.checksum());
    }

    private static void commute() {
        Check.due("a line", true, Halls.line("1101010000000000").commute(1, 3));
        Check.due("a line of mixed boxes", true, Halls.row("2143121111111", "2021000000000", false).commute(2, 5));
        Check.due("a ring", true, Halls.ring("1101000000").commute(1, 2));
        Check.due("a ring that comes round", true, Halls.ring("11000").commute(9, 9));
        Check.due("a ring that comes round", true, Halls.ring("110100").commute(9, 1));
        Check.due("the same capacity", true, Halls.ring("1101000000").commute(99, 99));
        Check.due("a ring whose orders lead to 31 and 13", false, Halls.row("44", "22", true).commute(1, 9));
        Check.due("the same the other way", false, Halls.row("44", "22", true).commute(9, 1));
        BoxballHall hall = Halls.ring("1101000000");
        long sum = hall.checksum();
        hall.commute(1, 2);
        Check.due("it is in thought", sum, hall.checksum());
    }

    private static void commuteWrong() {
        BoxballHall line = Halls.line("0000000110");
        for (int capacity : NO_CARRIER) {
            Check.thrown("commute of " + capacity, Check.ARGUMENT, () -> line.commute(capacity, 1));
            Check.thrown("commute of the other " + capacity, Check.ARGUMENT, () -> line.commute(1, capacity));
        }
        Check.thrown("both orders refused", Check.REFUSED, () -> line.commute(2, 2));
        Check.due("two steps can be made", true, Halls.line("0100").commute(1, 1));
        Check.thrown("the second step is refused", Check.REFUSED, () -> Halls.line("0010").commute(1, 1));
        Check.thrown("a ring refused by one", Check.REFUSED, () -> Halls.ring("11100").commute(1, 9));
        Check.thrown("a ring refused by the other", Check.REFUSED, () -> Halls.ring("11100").commute(9, 1));
    }

    private static void getPeriod() {
        Check.due("a wave of 2 on 5 boxes", 5, Halls.ring("11000").getPeriod(9));
        Check.due("a wave of 2 on 10 boxes", 5, Halls.ring("1100000000").getPeriod(9));
        Check.due("two waves on 10 boxes", 30, Halls.ring("1100100000").getPeriod(9));
        Check.due("a carrier of 1", 10, Halls.ring("1100100000").getPeriod(1));
        Check.due("an empty ring", 1, Halls.ring("000").getPeriod(99));
        Check.due("a full ring", 1, Halls.ring("111").getPeriod(1));
        Check.due("one box", 1, Halls.ring("0").getPeriod(1));
        Check.due("two boxes of three", 6, Halls.row("222222", "200100", true).getPeriod(3));
    }

    private static void longestPeriod() {
        BoxballHall hall = Halls.row(Halls.CAPACITIES_5000, Halls.BALLS_5000, true);
        Check.due("5000 steps", 5000, hall.getPeriod(1));
        Check.due("it is in thought", Halls.checksum(Halls.CAPACITIES_5000, Halls.BALLS_5000, 0), hall.checksum());
        Check.thrown("5001 steps", Check.NONE, () -> Halls.row(Halls.CAPACITIES_5001, Halls.BALLS_5001, true).getPeriod(2));
        comesBack(Halls.CAPACITIES_5000, Halls.BALLS_5000, 1, 5000);
        comesBack(Halls.CAPACITIES_5001, Halls.BALLS_5001, 2, 5001);
    }

    /** Lest the rows above be told wrongly: they do come to themselves, step by step, in one object after the other. */
    private static void comesBack(String capacities, String balls, int capacity, int steps) {
        BoxballHall hall = new BoxballHall();
        String behind = balls;
        int first = 0;
        for (int made = 1; made <= steps && first == 0; made++) {
            if (made % 15 == 1) {
                hall = Halls.row(capacities, behind, true);
            }
            hall.step(capacity);
            behind = Halls.balls(hall);
            first = behind.equals(balls) ? made : 0;
        }
        Check.due("steps till it is itself", steps, first);
    }

    private static void getPeriodWrong() {
        BoxballHall line = Halls.line("1100000000");
        for (int capacity : NO_CARRIER) {
            Check.thrown("getPeriod of " + capacity + " on a line", Check.ARGUMENT, () -> line.getPeriod(capacity));
            Check.thrown("getPeriod of " + capacity, Check.ARGUMENT, () -> Halls.ring("110").getPeriod(capacity));
        }
        Check.thrown("a line", Check.REFUSED, () -> line.getPeriod(9));
        Check.thrown("a step is refused", Check.REFUSED, () -> Halls.ring("11100").getPeriod(9));
        Check.thrown("a later step is refused", Check.REFUSED, () -> Halls.ring("110").getPeriod(2));
    }
}
