/** What "Terms" says of exceptions, and how many calls an object is used for. */
final class ThrowEdges {
    private ThrowEdges() {
    }

    static void all() {
        Edges.in("What it is");
        calls();
        Edges.in("Terms");
        changesNothing();
        Edges.edge("If several exceptions apply, the one that is documented first is thrown", () -> {
            rowsAndSteps();
            keptThings();
            wavesAndSizes();
            countingAndQueues();
        });
    }

    private static BoxballHall line() {
        return Halls.full("111", "101", false);
    }

    private static BoxballHall ring() {
        return Halls.full("211", "211", true);
    }

    private static BoxballHall filled() {
        BoxballHall hall = Halls.full("1121", "1021", true);
        hall.addWave(1, 1);
        hall.addWave(1, 1);
        hall.type(1);
        hall.type(1);
        hall.type(1);
        return hall;
    }

    private static void calls() {
        Edges.edge("An object is used for at most 512 calls after it has been made", () -> {
            BoxballHall hall = new BoxballHall();
            hall.setRow(5, 1, true);
            hall.setBalls(0, 1);
            for (int call = 3; call <= 511; call++) {
                hall.step(99);
            }
            Check.due("the call 512, 509 steps later", 1, hall.getBalls(4));
            BoxballHall counted = new BoxballHall();
            for (int call = 1; call <= 511; call++) {
                counted.keepsNumbers(204);
            }
            Check.due("the call 512", true, counted.isSound());
        });
    }

    private static void changesNothing() {
        Edges.edge("A method that throws an exception changes nothing", () -> {
            Check.refused("setRow", Check.ARGUMENT, ThrowEdges::filled, hall -> hall.setRow(1, 5, false));
            Check.refused("setCapacity", Check.ARGUMENT, ThrowEdges::filled, hall -> hall.setCapacity(2, 0));
            Check.refused("setBalls", Check.ARGUMENT, ThrowEdges::filled, hall -> hall.setBalls(2, 3));
            Check.refused("step", Check.REFUSED, ThrowEdges::filled, hall -> hall.step(99));
            Check.refused("stepBack", Check.REFUSED, ThrowEdges::filled, hall -> hall.stepBack(99));
            Check.refused("run", Check.ARGUMENT, ThrowEdges::filled, hall -> hall.run(9, 100));
            Check.refused("getPast", Check.NONE, ThrowEdges::filled, hall -> hall.getPast(4, 0));
            Check.refused("commute", Check.REFUSED, ThrowEdges::filled, hall -> hall.commute(1, 99));
            Check.refused("getPeriod", Check.REFUSED, ThrowEdges::filled, hall -> hall.getPeriod(99));
            Check.refused("addWave", Check.STATE, ThrowEdges::filled, hall -> hall.addWave(1, 1));
            Check.refused("takeChosen", Check.ARGUMENT, ThrowEdges::filled, hall -> hall.takeChosen(100));
            Check.refused("move", Check.REFUSED, ThrowEdges::filled, hall -> hall.move(0));
            Check.refused("type", Check.STATE, ThrowEdges::filled, hall -> hall.type(1));
            Check.refused("makeRow", Check.NONE, ThrowEdges::filled, hall -> hall.makeRow(3, 0));
            Check.refused("countImages", Check.REFUSED, ThrowEdges::filled, hall -> hall.countImages(12, 6));
            Check.refused("setTime", Check.ARGUMENT, ThrowEdges::filled, hall -> hall.setTime(0, 0, 100));
        });
    }

    private static void rowsAndSteps() {
        Check.refused("setCapacity", Check.INDEX, ThrowEdges::line, hall -> hall.setCapacity(3, 0));
        Check.refused("setCapacity", Check.INDEX, ThrowEdges::line, hall -> hall.setCapacity(-1, 5));
        Check.refused("setBalls", Check.INDEX, ThrowEdges::line, hall -> hall.setBalls(3, -1));
        Check.refused("setBalls", Check.INDEX, ThrowEdges::line, hall -> hall.setBalls(-1, 2));
        for (int wrong : new int[] {0, 100}) {
            Check.refused("step of a line", Check.ARGUMENT, ThrowEdges::line, hall -> hall.step(wrong));
            Check.refused("step of a ring", Check.ARGUMENT, ThrowEdges::ring, hall -> hall.step(wrong));
            Check.refused("stepBack of a line", Check.ARGUMENT, ThrowEdges::line, hall -> hall.stepBack(wrong));
            Check.refused("stepBack of a ring", Check.ARGUMENT, ThrowEdges::ring, hall -> hall.stepBack(wrong));
            Check.refused("commute of a line", Check.ARGUMENT, ThrowEdges::line, hall -> hall.commute(wrong, 9));
            Check.refused("commute of a ring", Check.ARGUMENT, ThrowEdges::ring, hall -> hall.commute(9, wrong));
            Check.refused("getPeriod of a line", Check.ARGUMENT, ThrowEdges::line, hall -> hall.getPeriod(wrong));
            Check.refused("getPeriod of a ring", Check.ARGUMENT, ThrowEdges::ring, hall -> hall.getPeriod(wrong));
        }
        Check.refused("getPast of a line", Check.NONE, ThrowEdges::line, hall -> hall.getPast(0, -1));
        Check.refused("getPast of a ring", Check.NONE, ThrowEdges::ring, hall -> hall.getPast(4, 3));
    }

    private static void keptThings() {
        Check.refused("countPairs", Check.ARGUMENT, ThrowEdges::ring, hall -> hall.countPairs(0));
        Check.refused("getSize", Check.REFUSED, ThrowEdges::ring, hall -> hall.getSize(-1));
        Check.refused("getSize", Check.REFUSED, ThrowEdges::ring, hall -> hall.getSize(99));
        for (int wrong : new int[] {-1, 100}) {
            Check.refused("getEnergy", Check.ARGUMENT, ThrowEdges::ring, hall -> hall.getEnergy(wrong));
            Check.refused("countRuns", Check.ARGUMENT, ThrowEdges::ring, hall -> hall.countRuns(wrong));
            Check.refused("getRun of a ring", Check.ARGUMENT, ThrowEdges::ring, hall -> hall.getRun(wrong, -1));
            Check.refused("getRun of a line", Check.ARGUMENT, ThrowEdges::line, hall -> hall.getRun(wrong, 9));
            Check.refused("getPlace of a ring", Check.ARGUMENT, ThrowEdges::ring, hall -> hall.getPlace(wrong, -1));
            Check.refused("getPlace of a line", Check.ARGUMENT, ThrowEdges::line, hall -> hall.getPlace(wrong, 9));
            Check.refused("getRun, no run", Check.REFUSED, ThrowEdges::ring, hall -> hall.getRun(0, wrong));
            Check.refused("getPlace, no run", Check.REFUSED, ThrowEdges::ring, hall -> hall.getPlace(0, wrong));
        }
        Check.refused("getMeanSize of an empty ring", Check.REFUSED, () -> Halls.full("11", "00", true), BoxballHall::getMeanSize);
        Check.refused("of an empty line", Check.REFUSED, () -> Halls.full("12", "00", false), BoxballHall::getMeanSize);
    }

    private static void wavesAndSizes() {
        for (int[] wrong : new int[][] {{0, 1}, {10, 1}, {1, 61}, {1, -61}}) {
            Check.refused("addWave", Check.ARGUMENT, ThrowEdges::filled, hall -> hall.addWave(wrong[0], wrong[1]));
        }
        Check.refused("type", Check.ARGUMENT, ThrowEdges::filled, hall -> hall.type(0));
        Check.refused("type", Check.ARGUMENT, ThrowEdges::filled, hall -> hall.type(10));
    }

    private static void countingAndQueues() {
        for (int wrong : new int[] {-1, 256}) {
            Check.refused("move of a line", Check.ARGUMENT, ThrowEdges::line, hall -> hall.move(wrong));
            Check.refused("move of a ring", Check.ARGUMENT, ThrowEdges::ring, hall -> hall.move(wrong));
        }
        Check.refused("makeRow", Check.ARGUMENT, ThrowEdges::line, hall -> hall.makeRow(0, 0));
        Check.refused("makeRow", Check.ARGUMENT, ThrowEdges::line, hall -> hall.makeRow(13, -1));
        Check.refused("countImages", Check.ARGUMENT, ThrowEdges::line, hall -> hall.countImages(0, 0));
        Check.refused("countImages", Check.ARGUMENT, ThrowEdges::line, hall -> hall.countImages(12, 13));
        Check.refused("setTime", Check.INDEX, ThrowEdges::line, hall -> hall.setTime(8, 0, 100));
        Check.refused("setTime", Check.INDEX, ThrowEdges::line, hall -> hall.setTime(0, -1, -1));
    }
}
