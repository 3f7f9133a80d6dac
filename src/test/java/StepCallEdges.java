/** Promises 7 to 14: steps, kept rows, and what is thought of steps. */
final class StepCallEdges {
    private StepCallEdges() {
    }

    static void all() {
        Edges.in("Promise 7");
        step();
        Edges.in("Promise 8");
        stepBack();
        Edges.in("Promise 9");
        run();
        Edges.in("Promise 10");
        countKept();
        Edges.in("Promise 11");
        getPast();
        Edges.in("Promise 12");
        undo();
        Edges.in("Promise 13");
        commute();
        Edges.in("Promise 14");
        getPeriod();
        getPeriodThrows();
    }

    private static void step() {
        Edges.edge("Makes a step forward", () -> {
            BoxballHall hall = Halls.line("1100100000");
            hall.step(9);
            Check.due("to the right", "0011010000", Halls.balls(hall));
            Check.due("the row ahead is kept", "1100100000", Halls.past(hall, 1));
        });
        Edges.edge("`capacity`: 1 to 99", () ->
            Check.range("capacity", 1, 99, Check.ARGUMENT, Halls::fullLine, (hall, n) -> hall.step(n)));
        Edges.edge("Returns how many balls the carrier had at most", () -> {
            Check.due("none", 0, Halls.line("0000").step(99));
            Check.due("as many as it can", 2, Halls.line("111000").step(2));
            Check.due("fewer than it could", 3, Halls.line("111000").step(4));
            Check.due("exactly as many", 3, Halls.line("111000").step(3));
        });
        Edges.edge("Throws `IllegalArgumentException` if a number is out of range", () ->
            Check.refused("step of 0 on a ring", Check.ARGUMENT, () -> Halls.full("1221", "1000", true), hall -> hall.step(0)));
        Edges.edge("Throws `UnsupportedOperationException` if it is refused", () -> {
            Check.Maker line = () -> Halls.full("1111", "1101", false);
            Check.refused("step on a line", Check.REFUSED, line, hall -> hall.step(1));
            Check.Maker ring = () -> Halls.full("1111", "1110", true);
            Check.refused("step on a ring", Check.REFUSED, ring, hall -> hall.step(9));
        });
    }

    private static void stepBack() {
        Edges.edge("Makes a step backward", () -> {
            BoxballHall hall = Halls.line("0011010000");
            hall.stepBack(9);
            Check.due("to the left", "1100100000", Halls.balls(hall));
            Check.due("the row ahead is kept", "0011010000", Halls.past(hall, 1));
        });
        Edges.edge("`capacity`: 1 to 99", () -> {
            Check.Maker maker = () -> Halls.full("1111111", "0011010", false);
            Check.range("capacity", 1, 99, Check.ARGUMENT, maker, (hall, n) -> hall.stepBack(n));
        });
        Edges.edge("Returns how many balls the carrier had at most", () -> {
            Check.due("none", 0, Halls.line("0000").stepBack(99));
            Check.due("as many as it can", 2, Halls.line("000111").stepBack(2));
            Check.due("fewer than it could", 3, Halls.line("000111").stepBack(4));
            Check.due("from the beginning of the round on", 2, Halls.ring("11000").stepBack(9));
        });
        Edges.edge("Throws `IllegalArgumentException` if a number is out of range", () -> {
            Check.Maker maker = () -> Halls.full("1221", "1000", true);
            Check.refused("stepBack of 0 on a ring", Check.ARGUMENT, maker, hall -> hall.stepBack(0));
        });
        Edges.edge("Throws `UnsupportedOperationException` if it is refused", () -> {
            Check.Maker line = () -> Halls.full("1111", "1011", false);
            Check.refused("stepBack on a line", Check.REFUSED, line, hall -> hall.stepBack(1));
            Check.Maker ring = () -> Halls.full("1111", "0111", true);
            Check.refused("stepBack on a ring", Check.REFUSED, ring, hall -> hall.stepBack(9));
        });
    }

    private static void run() {
        Edges.edge("Makes steps forward, as many as can be", () -> {
            BoxballHall line = Halls.line("1000000000");
            Check.due("till the end of a line", 9, line.run(99, 1));
            Check.due("behind them", "0000000001", Halls.balls(line));
            Check.due("rows kept", 8, line.countKept());
            Check.due("the last one kept", "0000000010", Halls.past(line, 1));
            Check.due("none", 0, line.run(99, 1));
            Check.due("behind none", "0000000001", Halls.balls(line));
            Check.due("rows kept of none", 8, line.countKept());
            Check.due("on a ring that is refused at once", 0, Halls.row("3", "1", true).run(1, 1));
            Check.due("on one that is refused later", 40, Halls.row("44441", "40210", true).run(99, 2));
        });
        Edges.edge("`steps`: 1 to 99", () -> {
            Check.range("steps", 1, 99, Check.ARGUMENT, Halls::fullLine, (hall, n) -> hall.run(n, 1));
            Check.due("1 of them", 1, Halls.ring("10").run(1, 1));
            Check.due("99 of them", 99, Halls.ring("10").run(99, 1));
            Check.due("9 of 9", 9, Halls.line("1000000000").run(9, 1));
            Check.due("9 of 10", 9, Halls.line("1000000000").run(10, 1));
            Check.due("8 of 9", 8, Halls.line("1000000000").run(8, 1));
        });
        Edges.edge("`capacity`: 1 to 99", () ->
            Check.range("capacity", 1, 99, Check.ARGUMENT, Halls::fullLine, (hall, n) -> hall.run(1, n)));
        Edges.edge("Returns how many were made", () -> {
            BoxballHall hall = Halls.line("1100000000");
            Check.due("three", 3, hall.run(3, 2));
            Check.due("one more", 1, hall.run(3, 2));
            Check.due("by a smaller carrier none", 0, hall.run(3, 1));
        });
        Edges.edge("Throws `IllegalArgumentException` if a number is out of range", () -> {
            int[][] wrong = {{0, 1}, {100, 1}, {1, 0}, {1, 100}, {0, 0}, {100, 100}};
            for (int[] given : wrong) {
                String call = "run " + given[0] + " " + given[1];
                Check.refused(call, Check.ARGUMENT, Halls::fullLine, hall -> hall.run(given[0], given[1]));
            }
            Check.Maker stuck = () -> Halls.full("11", "01", false);
            Check.refused("where no step can be made", Check.ARGUMENT, stuck, hall -> hall.run(0, 1));
        });
    }

    private static void countKept() {
        Edges.edge("Returns how many rows are kept", () -> {
            BoxballHall hall = Halls.ring("1000");
            Check.due("none", 0, hall.countKept());
            hall.step(1);
            Check.due("one", 1, hall.countKept());
            hall.run(6, 1);
            Check.due("seven", 7, hall.countKept());
            hall.stepBack(1);
            Check.due("eight", 8, hall.countKept());
            hall.stepBack(1);
            Check.due("eight of nine", 8, hall.countKept());
            hall.undo();
            Check.due("one less", 7, hall.countKept());
        });
        Edges.edge("Returns how many.", () -> {
            BoxballHall ring = Halls.ring("1000");
            ring.run(99, 1);
            Check.due("behind 99", 8, ring.countKept());
            ring.setRow(4, 1, true);
            Check.due("none of a row told anew", 0, ring.countKept());
        });
    }

    private static BoxballHall stepped(int steps) {
        BoxballHall hall = Halls.full("1111111111", "1000000000", true);
        hall.setRow(10, 1, true);
        hall.setBalls(0, 1);
        for (int made = 0; made < steps; made++) {
            hall.step(1);
        }
        return hall;
    }

    private static void getPast() {
        Edges.edge("Returns how many balls a box had", () -> {
            BoxballHall hall = Halls.row("4444", "3200", true);
            hall.step(9);
            Check.due("as it was", "3200", Halls.past(hall, 1));
            hall.setBalls(0, 4);
            hall.setCapacity(1, 1);
            Check.due("whatever is told of boxes since", "3200", Halls.past(hall, 1));
        });
        Edges.edge("`steps`: how many steps ago, 1 or more", () -> {
            BoxballHall hall = stepped(8);
            for (int ago = 1; ago <= 8; ago++) {
                Check.due(ago + " steps ago", 1, hall.getPast(ago, 8 - ago));
            }
            Check.thrown("0 steps ago", Check.NONE, () -> hall.getPast(0, 0));
        });
        Edges.edge("`box`: the box", () -> {
            BoxballHall hall = Halls.row("4".repeat(60), "1" + "0".repeat(58) + "4", true);
            hall.step(99);
            Check.due("the first one", 1, hall.getPast(1, 0));
            Check.due("the last one", 4, hall.getPast(1, 59));
        });
        Edges.edge("Returns how many.", () -> {
            BoxballHall hall = Halls.row("4", "4", true);
            hall.step(1);
            Check.due("all that it holds", 4, hall.getPast(1, 0));
            hall.setBalls(0, 0);
            hall.step(1);
            Check.due("none", 0, hall.getPast(1, 0));
            Check.due("all, two steps ago", 4, hall.getPast(2, 0));
        });
        Edges.edge("Throws `NoSuchElementException` if that row is not kept", () -> {
            for (int steps : new int[] {1, 7, 8, 9, 17}) {
                int kept = Math.min(steps, 8);
                Check.range("steps", 1, kept, Check.NONE, () -> stepped(steps), (hall, n) -> hall.getPast(n, 0));
            }
            Check.refused("none is kept", Check.NONE, () -> stepped(0), hall -> hall.getPast(1, 0));
            BoxballHall undone = stepped(9);
            undone.undo();
            Check.thrown("the one that an undo gave back", Check.NONE, () -> undone.getPast(8, 0));
            Check.due("the oldest one behind it", 1, undone.getPast(7, 1));
        });
        Edges.edge("Throws `IndexOutOfBoundsException` if there is no such box", () -> {
            for (int ago : new int[] {1, 8}) {
                Check.range("box", 0, 9, Check.INDEX, () -> stepped(8), (hall, n) -> hall.getPast(ago, n));
            }
            BoxballHall shorter = Halls.ring("1".repeat(60));
            shorter.step(1);
            shorter.setRow(3, 1, true);
            shorter.step(1);
            Check.thrown("a box of the row before", Check.INDEX, () -> shorter.getPast(1, 3));
        });
    }

    private static void undo() {
        Edges.edge("Goes back to the row that was kept last, which is not kept any more", () -> {
            BoxballHall hall = stepped(9);
            for (int place = 8; place >= 1; place--) {
                hall.undo();
                Check.due("the ball", 1, hall.getBalls(place));
                Check.due("kept", place - 1, hall.countKept());
            }
            Check.due("where it wraps round", "2 3 4 5 6 5 4 3", placesKept(undoneAndBack()));
            hall.step(1);
            hall.stepBack(1);
            Check.due("kept again", 2, hall.countKept());
            Check.due("the newest one", "0010000000", Halls.past(hall, 1));
            Check.due("the one before", "0100000000", Halls.past(hall, 2));
        });
        Edges.edge("Returns how many are kept", () -> {
            BoxballHall hall = stepped(20);
            for (int left = 7; left >= 0; left--) {
                Check.due("left", left, hall.undo());
            }
        });
        Edges.edge("Throws `NoSuchElementException` if none is", () -> {
            Check.refused("none yet", Check.NONE, () -> stepped(0), BoxballHall::undo);
            Check.refused("none any more", Check.NONE, () -> {
                BoxballHall hall = stepped(1);
                hall.undo();
                return hall;
            }, BoxballHall::undo);
            Check.refused("none behind eight", Check.NONE, () -> {
                BoxballHall hall = stepped(9);
                for (int undone = 0; undone < 8; undone++) {
                    hall.undo();
                }
                return hall;
            }, BoxballHall::undo);
        });
    }

    /** Nine steps to the box 9, three of them taken back, and five steps back from the box 6. */
    private static BoxballHall undoneAndBack() {
        BoxballHall hall = stepped(9);
        for (int undone = 0; undone < 3; undone++) {
            hall.undo();
        }
        for (int made = 0; made < 5; made++) {
            hall.stepBack(1);
        }
        return hall;
    }

    private static String placesKept(BoxballHall hall) {
        StringBuilder places = new StringBuilder();
        for (int ago = 1; ago <= hall.countKept(); ago++) {
            places.append(Halls.past(hall, ago).indexOf('1')).append(' ');
        }
        return places.toString().trim();
    }

    private static void commute() {
        Edges.edge("steps of two capacities, in both orders, in thought, lead to the same row", () -> {
            Check.due("on a line", true, Halls.line("1101000000").commute(1, 99));
            Check.due("the same capacity", true, Halls.ring("1101000000").commute(2, 2));
            Check.due("an empty row", true, Halls.line("0").commute(1, 2));
            Check.due("a ring where they do not", false, Halls.row("22", "11", true).commute(1, 2));
            Check.due("the same, told the other way", false, Halls.row("22", "11", true).commute(2, 1));
            Check.due("but one of them does with itself", true, Halls.row("22", "11", true).commute(1, 1));
            BoxballHall hall = Halls.full("11111111", "11010000", true);
            hall.commute(1, 2);
            Check.due("in thought", Halls.all(Halls.full("11111111", "11010000", true)), Halls.all(hall));
        });
        Edges.edge("`one`: 1 to 99", () ->
            Check.range("one", 1, 99, Check.ARGUMENT, Halls::fullLine, (hall, n) -> hall.commute(n, 1)));
        Edges.edge("`other`: 1 to 99", () ->
            Check.range("other", 1, 99, Check.ARGUMENT, Halls::fullLine, (hall, n) -> hall.commute(1, n)));
        Edges.edge("Returns whether they do", () -> {
            Check.due("they do", true, Halls.row("44", "40", true).commute(4, 9));
            Check.due("they do not", false, Halls.row("44", "22", true).commute(1, 9));
        });
        Edges.edge("Throws `IllegalArgumentException` if a number is out of range", () -> {
            int[][] wrong = {{0, 1}, {100, 1}, {1, 0}, {1, 100}, {0, 0}, {100, 100}};
            for (int[] given : wrong) {
                String call = "commute " + given[0] + " " + given[1];
                Check.refused(call, Check.ARGUMENT, Halls::fullLine, hall -> hall.commute(given[0], given[1]));
            }
        });
        Edges.edge("if one of them is refused, in one of the orders", () -> {
            // Refused is the first step of one order alone, then the second one, then the second one of both.
            notBoth("111", "101", true, 1, 2);
            notBoth("311", "201", true, 2, 3);
            notBoth("221", "120", true, 2, 3);
            notBoth("311", "210", true, 2, 3);
            notBoth("411", "310", true, 2, 3);
            notBoth("11", "10", false, 1, 3);
            notBoth("1111111111", "0000000001", false, 1, 1);
        });
    }

    private static void notBoth(String capacities, String balls, boolean isRing, int one, int other) {
        Check.Maker maker = () -> Halls.full(capacities, balls, isRing);
        String call = " commute of " + balls + " in " + capacities;
        Check.refused(call, Check.REFUSED, maker, hall -> hall.commute(one, other));
        Check.refused(call + ", the other way", Check.REFUSED, maker, hall -> hall.commute(other, one));
    }

    private static void getPeriod() {
        Edges.edge("after how many steps, in thought, a ring comes to itself first", () -> {
            Check.due("at once", 1, Halls.ring("000").getPeriod(1));
            Check.due("behind two", 2, Halls.ring("10").getPeriod(1));
            Check.due("once round", 60, Halls.ring("1" + "0".repeat(59)).getPeriod(99));
            Check.due("as a row, not ball by ball", 5, Halls.ring("1000010000").getPeriod(1));
            BoxballHall hall = Halls.full("11111111", "11010000", true);
            hall.getPeriod(1);
            Check.due("in thought", Halls.all(Halls.full("11111111", "11010000", true)), Halls.all(hall));
        });
        Edges.edge("`capacity`: 1 to 99", () -> {
            Check.Maker maker = () -> Halls.full("1111", "1000", true);
            Check.range("capacity", 1, 99, Check.ARGUMENT, maker, (hall, n) -> hall.getPeriod(n));
        });
        Edges.edge("Returns how many steps", () -> {
            Check.due("5", 5, Halls.ring("11000").getPeriod(9));
            Check.due("30", 30, Halls.ring("1100100000").getPeriod(9));
            Check.due("5000", 5000, Halls.row(Halls.CAPACITIES_5000, Halls.BALLS_5000, true).getPeriod(1));
        });
    }

    private static void getPeriodThrows() {
        Edges.edge("Throws `IllegalArgumentException` if a number is out of range", () -> {
            Check.Maker maker = () -> Halls.full("1221", "1000", true);
            Check.range("capacity", 1, 99, Check.ARGUMENT, maker, (hall, n) -> hall.getPeriod(n));
        });
        Edges.edge("Throws `UnsupportedOperationException` if it is a line, or a step is refused", () -> {
            Check.refused("a line", Check.REFUSED, Halls::fullLine, hall -> hall.getPeriod(1));
            Check.refused("an empty line", Check.REFUSED, () -> Halls.full("1", "0", false), hall -> hall.getPeriod(1));
            notPeriodic("11111", "11100", 9, 0);
            notPeriodic("311", "210", 2, 1);
            notPeriodic("111", "110", 2, 2);
            notPeriodic("44441", "40210", 2, 40);
        });
        Edges.edge("Throws `NoSuchElementException` if they are more than 5000", () -> {
            Check.due("5000", 5000, Halls.row(Halls.CAPACITIES_5000, Halls.BALLS_5000, true).getPeriod(1));
            Check.Maker maker = () -> Halls.full(Halls.CAPACITIES_5001, Halls.BALLS_5001, true);
            Check.refused("5001", Check.NONE, maker, hall -> hall.getPeriod(2));
            Check.Maker never = () -> Halls.full("22", "20", true);
            Check.refused("a ring that never comes to itself", Check.NONE, never, hall -> hall.getPeriod(1));
        });
    }

    /** So many steps can be made, and the next one is refused. */
    private static void notPeriodic(String capacities, String balls, int carrier, int steps) {
        Check.due("steps that can be made", steps, Halls.row(capacities, balls, true).run(99, carrier));
        Check.Maker maker = () -> Halls.full(capacities, balls, true);
        Check.refused("step " + (steps + 1) + " is refused", Check.REFUSED, maker, hall -> hall.getPeriod(carrier));
    }
}
