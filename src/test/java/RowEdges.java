/** Promises 1 to 6, and what "Terms" says of rows. */
final class RowEdges {
    private static final int[] LENGTHS = {1, 2, 10, 59, 60};

    private RowEdges() {
    }

    static void all() {
        Edges.in("Terms");
        rows();
        kinds();
        Edges.in("Promise 1");
        Edges.edge("Creates a line of 10 empty boxes of the capacity 1", RowEdges::isNew);
        Edges.in("Promise 2");
        setRow();
        setRowAnew();
        Edges.in("Promise 3");
        setCapacity();
        setCapacityAnswers();
        Edges.in("Promise 4");
        setBalls();
        Edges.in("Promise 5");
        getBalls();
        Edges.in("Promise 6");
        countBalls();
    }

    private static void rows() {
        Edges.edge("There is a row of 1 to 60 boxes, numbered from the left from 0", () -> {
            for (int boxes : LENGTHS) {
                BoxballHall hall = new BoxballHall();
                hall.setRow(boxes, 1, false);
                Check.due("boxes", boxes, Halls.countBoxes(hall));
                Check.due("the first one", 0, hall.getBalls(0));
                Check.due("the last one", 0, hall.getBalls(boxes - 1));
                Check.thrown("none is behind", Check.INDEX, () -> hall.getBalls(boxes));
            }
            BoxballHall two = Halls.line("10");
            two.step(1);
            Check.due("to the right of the box 0 is the box 1", "01", Halls.balls(two));
        });
        Edges.edge("each of a capacity, 1 to 4, with 0 to as many balls", () -> {
            for (int capacity = 1; capacity <= 4; capacity++) {
                int most = capacity;
                Check.Maker maker = () -> Halls.full("1" + most + "1", "101", true);
                Check.range("balls of a box of " + most, 0, most, Check.ARGUMENT, maker, (hall, n) -> hall.setBalls(1, n));
            }
        });
        Edges.edge("At first it is a line of 10 boxes of the capacity 1, without balls", RowEdges::isNew);
    }

    private static void kinds() {
        Edges.edge("it is a line, or a ring, whose last box is ahead of its first one", () -> {
            for (int boxes : LENGTHS) {
                String last = "0".repeat(boxes - 1) + "1";
                String first = "1" + "0".repeat(boxes - 1);
                Check.refused("a line, to the right", Check.REFUSED, () -> Halls.line(last), hall -> hall.step(1));
                Check.refused("a line, to the left", Check.REFUSED, () -> Halls.line(first), hall -> hall.stepBack(1));
                BoxballHall ring = Halls.ring(last);
                ring.step(1);
                Check.due("from the last box to the first one", first, Halls.balls(ring));
                ring.stepBack(1);
                Check.due("from the first box to the last one", last, Halls.balls(ring));
            }
        });
        Edges.edge("A row is simple if all of its boxes are of the capacity 1", () -> {
            for (int boxes : LENGTHS) {
                for (int box : new int[] {0, boxes / 2, boxes - 1}) {
                    isSimpleButFor(boxes, box);
                }
            }
        });
    }

    private static void isSimpleButFor(int boxes, int box) {
        BoxballHall line = Halls.line("0".repeat(boxes));
        BoxballHall ring = Halls.ring("0".repeat(boxes));
        for (int capacity = 2; capacity <= 4; capacity++) {
            line.setCapacity(box, capacity);
            ring.setCapacity(box, capacity);
            Check.thrown("a line with one box of " + capacity, Check.REFUSED, line::countWaves);
            Check.thrown("a ring with one box of " + capacity, Check.REFUSED, () -> ring.move(0));
        }
        line.setCapacity(box, 1);
        ring.setCapacity(box, 1);
        Check.due("a line that is simple again", 0, line.countWaves());
        Check.due("a ring that is simple again", 0, ring.move(0));
    }

    private static void isNew() {
        BoxballHall hall = new BoxballHall();
        Check.due("ten empty boxes", "0000000000", Halls.balls(hall));
        Check.thrown("a box 10", Check.INDEX, () -> hall.getBalls(10));
        Check.due("no balls", 0, hall.countBalls());
        Check.thrown("it is no ring", Check.REFUSED, () -> hall.getPeriod(1));
        Check.due("it is simple", 0, hall.countWaves());
        Check.due("nothing is kept", 0, hall.countKept());
        Check.due("its checksum", Halls.checksum("1111111111", "0000000000", 0), hall.checksum());
        for (int box = 0; box < 10; box++) {
            Check.due("the capacity of " + box, 1, hall.setCapacity(box, 1));
        }
        Check.due("boxes", 10, hall.setRow(1, 1, false));
        BoxballHall other = new BoxballHall();
        Check.due("waves, sizes", "0 0", other.clearWaves() + " " + other.wipe());
        Check.due("times", 0, other.getLeaving(7, 5));
    }

    private static void setRow() {
        Edges.edge("`boxes`: 1 to 60", () -> {
            Check.range("boxes", 1, 60, Check.ARGUMENT, Halls::fullLine, (hall, n) -> hall.setRow(n, 2, true));
            BoxballHall hall = new BoxballHall();
            hall.setRow(60, 1, false);
            Check.due("60 of them", 60, Halls.countBoxes(hall));
            hall.setRow(1, 1, false);
            Check.due("1 of them", 1, Halls.countBoxes(hall));
        });
        Edges.edge("`capacity`: 1 to 4", () -> {
            Check.range("capacity", 1, 4, Check.ARGUMENT, Halls::fullLine, (hall, n) -> hall.setRow(5, n, true));
            for (int capacity = 1; capacity <= 4; capacity++) {
                BoxballHall hall = new BoxballHall();
                hall.setRow(60, capacity, false);
                String capacities = String.valueOf(capacity).repeat(60);
                Check.due("all boxes have it", Halls.checksum(capacities, "0".repeat(60), 0), hall.checksum());
            }
        });
        Edges.edge("`isRing`: whether it is a ring", () -> {
            BoxballHall hall = new BoxballHall();
            hall.setRow(10, 1, true);
            Check.due("a ring", 1, hall.getPeriod(1));
            hall.setRow(10, 1, false);
            Check.thrown("a line", Check.REFUSED, () -> hall.getPeriod(1));
        });
        Edges.edge("Throws `IllegalArgumentException` if a number is out of range", () -> {
            int[][] wrong = {{0, 0}, {0, 5}, {61, 0}, {61, 5}, {0, 1}, {61, 4}, {1, 0}, {60, 5}};
            for (int[] given : wrong) {
                String call = "setRow " + given[0] + " " + given[1];
                Check.refused(call, Check.ARGUMENT, Halls::fullLine, hall -> hall.setRow(given[0], given[1], true));
            }
        });
    }

    private static void setRowAnew() {
        Edges.edge("Tells a row anew, without balls", () -> {
            BoxballHall hall = Halls.row("4".repeat(60), "4".repeat(60), true);
            hall.setRow(3, 2, false);
            Check.due("a shorter one", Halls.checksum("222", "000", 0), hall.checksum());
            hall.setRow(60, 1, false);
            Check.due("a longer one", Halls.checksum("1".repeat(60), "0".repeat(60), 0), hall.checksum());
            BoxballHall same = Halls.full("1212", "1111", true);
            same.setRow(4, 1, true);
            Check.due("one of as many boxes", Halls.checksum("1111", "0000", 0), same.checksum());
            Check.due("and times", true, same.getLeaving(7, 5) > 0);
            Check.due("waves, sizes stay", "3 3", same.clearWaves() + " " + same.wipe());
        });
        Edges.edge("Returns how many boxes the one before had", () -> {
            BoxballHall hall = new BoxballHall();
            Check.due("at first", 10, hall.setRow(60, 1, true));
            Check.due("60", 60, hall.setRow(1, 4, false));
            Check.thrown("a refused one", Check.ARGUMENT, () -> hall.setRow(61, 4, false));
            Check.due("1", 1, hall.setRow(12, 1, false));
            hall.makeRow(7, 0);
            Check.due("those of a row made", 7, hall.setRow(9, 1, false));
            hall.takeChosen(0);
            Check.due("those of a row chosen", 9, hall.setRow(9, 1, false));
        });
    }

    private static void setCapacity() {
        Edges.edge("`box`: the box", () -> {
            for (int boxes : LENGTHS) {
                String capacities = "1".repeat(boxes - 1) + "3";
                Check.Maker maker = () -> Halls.full(capacities, "0".repeat(boxes), false);
                Check.range("box", 0, boxes - 1, Check.INDEX, maker, (hall, n) -> hall.setCapacity(n, 2));
                BoxballHall hall = maker.make();
                Check.due("the last one", 3, hall.setCapacity(boxes - 1, 4));
                Check.due("the first one", boxes == 1 ? 4 : 1, hall.setCapacity(0, 4));
            }
        });
        Edges.edge("`capacity`: 1 to 4", () -> {
            Check.Maker maker = () -> Halls.full("1234", "1111", false);
            Check.range("capacity", 1, 4, Check.ARGUMENT, maker, (hall, n) -> hall.setCapacity(1, n));
        });
        Edges.edge("it loses what it cannot hold", () -> {
            for (int balls = 0; balls <= 4; balls++) {
                for (int capacity = 1; capacity <= 4; capacity++) {
                    BoxballHall hall = Halls.row("444", "4" + balls + "4", false);
                    hall.setCapacity(1, capacity);
                    String due = "4" + Math.min(balls, capacity) + "4";
                    Check.due(balls + " in a box of " + capacity, Halls.checksum("4" + capacity + "4", due, 0), hall.checksum());
                    hall.setCapacity(1, 4);
                    Check.due("they do not come again", due, Halls.balls(hall));
                }
            }
        });
        Edges.edge("Throws `IndexOutOfBoundsException` if there is no such box", () -> {
            BoxballHall hall = Halls.row("4".repeat(60), "4".repeat(60), true);
            hall.setRow(10, 4, true);
            long sum = hall.checksum();
            Check.thrown("a box of the row before", Check.INDEX, () -> hall.setCapacity(10, 2));
            Check.thrown("the last box of the row before", Check.INDEX, () -> hall.setCapacity(59, 2));
            Check.due("it changes nothing", sum, hall.checksum());
        });
    }

    private static void setCapacityAnswers() {
        Edges.edge("Returns the one before", () -> {
            BoxballHall hall = Halls.row("1234", "0000", false);
            for (int box = 0; box < 4; box++) {
                Check.due("as it was told", box + 1, hall.setCapacity(box, 4 - box));
                Check.due("as it was set", 4 - box, hall.setCapacity(box, 4 - box));
            }
            Check.thrown("a refused one", Check.ARGUMENT, () -> hall.setCapacity(0, 5));
            Check.due("as it was", 4, hall.setCapacity(0, 1));
        });
        Edges.edge("Throws `IllegalArgumentException` if a number is out of range", () -> {
            for (int box = 0; box < 4; box++) {
                int one = box;
                Check.Maker maker = () -> Halls.full("1234", "1234", true);
                Check.refused("0 for the box " + box, Check.ARGUMENT, maker, hall -> hall.setCapacity(one, 0));
                Check.refused("5 for the box " + box, Check.ARGUMENT, maker, hall -> hall.setCapacity(one, 5));
            }
        });
    }

    private static void setBalls() {
        Edges.edge("`box`: the box", () -> {
            for (int boxes : LENGTHS) {
                BoxballHall hall = Halls.line("0".repeat(boxes));
                hall.setBalls(boxes - 1, 1);
                Check.due("the last one", "0".repeat(boxes - 1) + "1", Halls.balls(hall));
                hall.setBalls(boxes - 1, 0);
                hall.setBalls(0, 1);
                Check.due("the first one", "1" + "0".repeat(boxes - 1), Halls.balls(hall));
            }
        });
        Edges.edge("`balls`: how many", () -> {
            BoxballHall hall = Halls.row("1234", "0000", false);
            for (int box = 0; box < 4; box++) {
                hall.setBalls(box, box + 1);
            }
            Check.due("as many as they hold", "1234", Halls.balls(hall));
            for (int box = 0; box < 4; box++) {
                hall.setBalls(box, 0);
            }
            Check.due("none", "0000", Halls.balls(hall));
        });
        Edges.edge("Sets how many balls a box has", () -> {
            BoxballHall hall = Halls.row("444", "232", true);
            hall.setBalls(1, 1);
            Check.due("no other box", "212", Halls.balls(hall));
        });
        Edges.edge("Returns how many it had", () -> {
            BoxballHall hall = Halls.row("44", "04", false);
            Check.due("none", 0, hall.setBalls(0, 4));
            Check.due("all that it holds", 4, hall.setBalls(1, 0));
            Check.thrown("a refused one", Check.ARGUMENT, () -> hall.setBalls(0, 5));
            Check.due("as it was", 4, hall.setBalls(0, 3));
            Check.due("as it was set", 3, hall.setBalls(0, 3));
        });
        Edges.edge("Throws `IndexOutOfBoundsException` if there is no such box", () -> {
            for (int boxes : LENGTHS) {
                Check.Maker maker = () -> Halls.full("2".repeat(boxes), "1".repeat(boxes), true);
                Check.range("box", 0, boxes - 1, Check.INDEX, maker, (hall, n) -> hall.setBalls(n, 0));
            }
        });
        Edges.edge("if they are below 0, or more than its capacity", () -> {
            for (int box = 0; box < 4; box++) {
                int one = box;
                Check.Maker maker = () -> Halls.full("1234", "1111", false);
                Check.range("balls", 0, box + 1, Check.ARGUMENT, maker, (hall, n) -> hall.setBalls(one, n));
            }
            BoxballHall narrower = Halls.row("44", "00", false);
            narrower.setCapacity(0, 2);
            Check.thrown("more than its new capacity", Check.ARGUMENT, () -> narrower.setBalls(0, 3));
            Check.due("as many as that", 0, narrower.setBalls(0, 2));
        });
    }

    private static void getBalls() {
        Edges.edge("Returns how many balls a box has", () -> {
            BoxballHall hall = Halls.row("1234", "1034", false);
            Check.due("each of them", "1 0 3 4", hall.getBalls(0) + " " + hall.getBalls(1) + " " + hall.getBalls(2) + " "
                    + hall.getBalls(3));
        });
        Edges.edge("`box`: the box", () -> {
            BoxballHall hall = Halls.row("4".repeat(60), "1" + "0".repeat(58) + "4", false);
            Check.due("the first one of 60", 1, hall.getBalls(0));
            Check.due("the last one of 60", 4, hall.getBalls(59));
        });
        Edges.edge("Returns how many.", () -> {
            for (int balls = 0; balls <= 4; balls++) {
                Check.due("balls", balls, Halls.row("4", "" + balls, true).getBalls(0));
            }
        });
        Edges.edge("Throws `IndexOutOfBoundsException` if there is no such box", () -> {
            for (int boxes : LENGTHS) {
                Check.Maker maker = () -> Halls.full("1".repeat(boxes), "0".repeat(boxes), true);
                Check.range("box", 0, boxes - 1, Check.INDEX, maker, (hall, n) -> hall.getBalls(n));
            }
            BoxballHall shorter = Halls.line("1".repeat(60));
            shorter.makeRow(3, 0);
            Check.thrown("a box of the row before", Check.INDEX, () -> shorter.getBalls(3));
        });
    }

    private static void countBalls() {
        Edges.edge("Returns how many balls there are", () -> {
            Check.due("balls of boxes of all kinds", 10, Halls.row("1234", "1234", false).countBalls());
            BoxballHall hall = Halls.row("4".repeat(60), "4".repeat(60), true);
            hall.setBalls(59, 3);
            Check.due("one less", 239, hall.countBalls());
            hall.setCapacity(0, 1);
            Check.due("three are lost", 236, hall.countBalls());
            hall.setRow(10, 4, true);
            Check.due("none of the row before", 0, hall.countBalls());
        });
        Edges.edge("Returns how many.", () -> {
            Check.due("none", 0, Halls.line("0").countBalls());
            Check.due("one", 1, Halls.ring("1").countBalls());
            Check.due("all there can be", 240, Halls.row("4".repeat(60), "4".repeat(60), false).countBalls());
        });
    }
}
