/** What "Terms" says of steps and of the rows that are kept. */
final class StepEdges {
    private StepEdges() {
    }

    static void all() {
        Edges.in("Terms");
        carriers();
        boxes();
        lines();
        rings();
        atMost();
        keptRows();
        whatTakesThemAway();
    }

    /** The row behind a step, and what the carrier had at most; a step backward brings a line back. */
    private static void isStep(String capacities, String balls, int carrier, int most, String behind) {
        BoxballHall hall = Halls.row(capacities, balls, false);
        String call = "a step of " + carrier + " over " + balls + " in " + capacities;
        Check.due(call + ", at most", most, hall.step(carrier));
        Check.due(call, behind, Halls.balls(hall));
        Check.due(call + ", at most and back", most, hall.stepBack(carrier));
        Check.due(call + ", and back", balls, Halls.balls(hall));
    }

    private static void isRingStep(String capacities, String balls, int carrier, int most, String behind) {
        BoxballHall hall = Halls.row(capacities, balls, true);
        String call = "a step of " + carrier + " round " + balls + " in " + capacities;
        Check.due(call + ", at most", most, hall.step(carrier));
        Check.due(call, behind, Halls.balls(hall));
    }

    private static void isRefused(String capacities, String balls, boolean isRing, int carrier) {
        String call = "a step of " + carrier + " over " + balls + " in " + capacities;
        Check.refused(call, Check.REFUSED, () -> Halls.full(capacities, balls, isRing), hall -> hall.step(carrier));
    }

    private static void carriers() {
        Edges.edge("A carrier of a capacity, 1 to 99", () -> {
            String row = "4".repeat(25) + "0".repeat(35);
            String fours = "4".repeat(60);
            isStep(fours, row, 99, 99, "0".repeat(24) + "1" + "4".repeat(24) + "3" + "0".repeat(10));
            isStep(fours, row, 98, 98, "0".repeat(24) + "2" + "4".repeat(24) + "2" + "0".repeat(10));
            isStep(fours, row, 1, 1, "3" + "4".repeat(24) + "1" + "0".repeat(34));
            isStep("1111111111", "1110000000", 1, 1, "0111000000");
        });
        Edges.edge("goes over all boxes, to the right from the first one, or to the left from the last one", () -> {
            String first = "1".repeat(30) + "0".repeat(30);
            String last = "0".repeat(30) + "1".repeat(30);
            isStep("1".repeat(60), first, 30, 30, last);
            BoxballHall back = Halls.line(last);
            Check.due("at most", 30, back.stepBack(30));
            Check.due("from the last box on", first, Halls.balls(back));
            isStep("11", "10", 1, 1, "01");
        });
    }

    private static void boxes() {
        Edges.edge("behind that the box has as many as the lesser of l and b less x", () -> {
            isStep("134", "110", 9, 1, "011");
            isStep("234", "210", 9, 2, "021");
            isStep("334", "310", 9, 3, "022");
            isStep("4344", "4300", 9, 7, "0043");
            isStep("22", "20", 9, 2, "02");
        });
        Edges.edge("what l and x together are more than the capacity of the carrier", () -> {
            isStep("234", "210", 4, 2, "021");
            isStep("234", "210", 3, 2, "021");
            isStep("234", "210", 2, 2, "030");
            isStep("234", "210", 1, 1, "120");
            isStep("44444", "43000", 7, 6, "01420");
            isStep("44444", "43000", 6, 5, "02410");
        });
        Edges.edge("With l balls it comes to a box of the capacity b with x balls", () -> {
            for (int carrier = 1; carrier <= 9; carrier++) {
                for (int load = 0; load <= Math.min(carrier, 8); load++) {
                    comesToAllBoxes(carrier, load);
                }
            }
        });
    }

    /** Ahead of the box stand full ones, in which nothing can be laid down, so that the carrier comes with a load. */
    private static void comesToAllBoxes(int carrier, int load) {
        String ahead = load == 0 ? "" : load <= 4 ? "" + load : "4" + (load - 4);
        for (int capacity = 1; capacity <= 4; capacity++) {
            for (int balls = 0; balls <= capacity; balls++) {
                BoxballHall hall = Halls.row(ahead + capacity + "444", ahead + balls + "000", false);
                hall.step(carrier);
                int due = Math.min(load, capacity - balls) + Math.max(0, load + balls - carrier);
                String call = load + " of " + carrier + " come to " + balls + " in " + capacity;
                Check.due(call, due, hall.getBalls(ahead.length()));
                Check.due(call + ", all balls", load + balls, hall.countBalls());
            }
        }
    }

    private static void lines() {
        Edges.edge("On a line it begins empty", () -> {
            BoxballHall hall = Halls.ring("00011");
            Check.due("a ring on which it begins with 2", 2, hall.step(9));
            hall.setRow(5, 1, false);
            Check.due("a line behind it", 0, hall.step(9));
            Check.due("nothing is laid down", "00000", Halls.balls(hall));
            hall.stepBack(9);
            Check.due("nothing, backward", "00000", Halls.balls(hall));
        });
        Edges.edge("a step is refused if it does not end empty", () -> {
            isStep("1111", "1100", 9, 2, "0011");
            isRefused("111", "110", false, 9);
            isStep("111", "110", 1, 1, "011");
            isStep("1", "0", 9, 0, "0");
            isRefused("1", "1", false, 1);
            isRefused("11", "01", false, 1);
            isStep("44", "40", 9, 4, "04");
            isRefused("44", "41", false, 9);
            isStep("44", "41", 3, 3, "14");
            isRefused("43", "40", false, 4);
            isStep("43", "40", 3, 3, "13");
            Check.Maker back = () -> Halls.full("111", "011", false);
            Check.refused("a step back of 2 over 011", Check.REFUSED, back, hall -> hall.stepBack(2));
        });
    }

    private static void rings() {
        Edges.edge("On a ring it first goes round in thought, beginning empty", () -> {
            isRingStep("11111", "10100", 9, 1, "01010");
            isRingStep("11111", "00000", 9, 0, "00000");
            BoxballHall hall = Halls.ring("00011");
            hall.step(9);
            Check.due("it begins empty again, not with the 2 of the round before", 2, hall.step(9));
            Check.due("behind both", "00110", Halls.balls(hall));
        });
        Edges.edge("then it goes round beginning with what it had at the end of that", () -> {
            isRingStep("11111", "00011", 9, 2, "11000");
            isRingStep("11111", "00011", 1, 1, "10001");
            isRingStep("11", "01", 9, 1, "10");
            isRingStep("1", "1", 1, 1, "1");
            BoxballHall back = Halls.ring("11000");
            back.stepBack(9);
            Check.due("backward", "00011", Halls.balls(back));
            isRingStep("1".repeat(60), "0".repeat(31) + "1".repeat(29), 99, 29, "1".repeat(29) + "0".repeat(31));
        });
        Edges.edge("the step is refused if it does not end with as much", () -> {
            isRingStep("1111", "1100", 9, 2, "0011");
            isRefused("111", "110", true, 3);
            isRingStep("111", "110", 2, 2, "011");
            isRefused("11111", "11100", true, 9);
            isRingStep("111", "111", 3, 3, "111");
            isRefused("111", "111", true, 4);
            isRingStep("1", "1", 1, 1, "1");
            isRefused("1", "1", true, 2);
            isRefused("3", "1", true, 1);
            isRingStep("33", "11", 1, 1, "02");
            Check.Maker back = () -> Halls.full("111", "011", true);
            Check.refused("a step back of 3 round 011", Check.REFUSED, back, hall -> hall.stepBack(3));
        });
        Edges.edge("A step forward goes to the right, a step backward to the left", () -> {
            BoxballHall hall = Halls.ring("0100");
            hall.step(1);
            Check.due("forward", "0010", Halls.balls(hall));
            hall.stepBack(1);
            hall.stepBack(1);
            Check.due("backward twice", "1000", Halls.balls(hall));
            hall.stepBack(1);
            Check.due("backward round the end", "0001", Halls.balls(hall));
            hall.step(1);
            Check.due("forward round the end", "1000", Halls.balls(hall));
        });
    }

    private static void atMost() {
        Edges.edge("What the carrier had at most is looked at from the beginning of that round on", () -> {
            isRingStep("11111", "00011", 9, 2, "11000");
            isRingStep("11111", "10001", 9, 2, "01100");
            isRingStep("32", "21", 2, 1, "21");
            isRingStep("12", "11", 2, 2, "02");
            BoxballHall hall = Halls.line("1110000000");
            Check.due("three", 3, hall.step(9));
            hall.setRow(10, 1, false);
            hall.setBalls(0, 1);
            Check.due("not three of the step before", 1, hall.step(9));
        });
        Edges.edge("and behind each box", () -> {
            isStep("111", "100", 9, 1, "010");
            isStep("1111", "0010", 9, 1, "0001");
            isStep("1111111111", "1011000000", 9, 2, "0100110000");
            isStep("44", "40", 4, 4, "04");
            isRingStep("11111", "00001", 9, 1, "10000");
        });
    }

    private static BoxballHall stepped(int steps) {
        BoxballHall hall = Halls.ring("1000000000000");
        for (int made = 0; made < steps; made++) {
            hall.step(1);
        }
        return hall;
    }

    private static void keptRows() {
        Edges.edge("The last 8 rows ahead of steps, forward and backward, are kept", () -> {
            BoxballHall hall = Halls.ring("1000000000");
            String[] rows = new String[13];
            for (int made = 1; made <= 12; made++) {
                rows[made] = Halls.balls(hall);
                if (made % 3 == 0) {
                    hall.stepBack(1);
                } else {
                    hall.step(1);
                }
                int kept = Math.min(made, 8);
                Check.due("kept behind " + made, kept, hall.countKept());
                Check.due("the oldest one", rows[made - kept + 1], Halls.past(hall, kept));
                Check.due("the newest one", rows[made], Halls.past(hall, 1));
            }
        });
        Edges.edge("are kept with their capacities", () -> {
            BoxballHall hall = nineSteps();
            for (int step = 9; step >= 2; step--) {
                Check.due("left", step - 2, hall.undo());
                Check.due("ahead of the step " + step, Halls.checksum(capacitiesAt(step), ballAt(step), step - 2), hall.checksum());
            }
            Check.thrown("ahead of the first step", Check.NONE, hall::undo);
        });
        Edges.edge("To undo gives back capacities and balls", () -> {
            BoxballHall hall = Halls.row("1234", "1200", false);
            hall.step(9);
            hall.setCapacity(0, 4);
            hall.setCapacity(3, 1);
            hall.setBalls(0, 4);
            hall.undo();
            Check.due("both", Halls.checksum("1234", "1200", 0), hall.checksum());
            BoxballHall simple = Halls.line("1000");
            simple.step(1);
            simple.setCapacity(2, 2);
            Check.thrown("it is not simple", Check.REFUSED, simple::countWaves);
            simple.undo();
            Check.due("it is simple again", 1, simple.countWaves());
            BoxballHall moved = Halls.ring("1000");
            moved.step(1);
            moved.move(255);
            moved.undo();
            Check.due("ahead of a law", "1000", Halls.balls(moved));
            Check.due("it is a ring still", 4, moved.getPeriod(1));
        });
    }

    /** The last of 20 boxes has another capacity ahead of each step; the ball is far from it. */
    private static BoxballHall nineSteps() {
        BoxballHall hall = Halls.line(ballAt(1));
        for (int step = 1; step <= 9; step++) {
            hall.setCapacity(19, 1 + step % 4);
            hall.step(1);
        }
        return hall;
    }

    private static String ballAt(int step) {
        return "0".repeat(step - 1) + "1" + "0".repeat(20 - step);
    }

    private static String capacitiesAt(int step) {
        return "1".repeat(19) + (1 + step % 4);
    }

    private static void whatTakesThemAway() {
        Edges.edge("till a row is told, chosen or made anew", () -> {
            for (int steps : new int[] {1, 8, 9}) {
                takesAway("setRow", steps, hall -> hall.setRow(13, 1, true));
                takesAway("takeChosen", steps, hall -> hall.takeChosen(0));
                takesAway("makeRow", steps, hall -> hall.makeRow(12, 0));
                leaves("a refused setRow", steps, hall -> hall.setRow(61, 1, true));
                leaves("a refused takeChosen", steps, hall -> hall.takeChosen(100));
                leaves("a refused makeRow", steps, hall -> hall.makeRow(12, 1));
            }
        });
        Edges.edge("what is told of boxes, and laws, neither keep rows nor take them away", () -> {
            for (int steps : new int[] {0, 1, 7, 8, 9}) {
                leaves("setCapacity", steps, hall -> hall.setCapacity(12, 2));
                leaves("setBalls", steps, hall -> hall.setBalls(12, 1));
                leaves("move", steps, hall -> hall.move(255));
            }
        });
        Edges.edge("The last 8 rows ahead of steps", () -> {
            for (int steps : new int[] {0, 1, 8}) {
                leaves("a refused step", steps, hall -> hall.step(100));
                leaves("commute", steps, hall -> hall.commute(1, 2));
                leaves("getPeriod", steps, hall -> hall.getPeriod(1));
                leaves("countImages", steps, hall -> hall.countImages(5, 2));
                leaves("isSound", steps, BoxballHall::isSound);
            }
        });
    }

    private static void takesAway(String call, int steps, Check.On on) {
        BoxballHall hall = stepped(steps);
        on.call(hall);
        Check.due(call + " behind " + steps, 0, hall.countKept());
        Check.thrown(call + " behind " + steps + ", undo", Check.NONE, hall::undo);
        Check.thrown(call + " behind " + steps + ", getPast", Check.NONE, () -> hall.getPast(1, 0));
    }

    private static void leaves(String call, int steps, Check.On on) {
        BoxballHall hall = stepped(steps);
        int kept = Math.min(steps, 8);
        Check.outcome(() -> on.call(hall));
        Check.due(call + " behind " + steps, kept, hall.countKept());
        for (int ago = 1; ago <= kept; ago++) {
            Check.due(call + ", the row " + ago + " ago", ballOnRing(steps - ago), Halls.past(hall, ago));
        }
    }

    private static String ballOnRing(int place) {
        return "0".repeat(place) + "1" + "0".repeat(12 - place);
    }
}
