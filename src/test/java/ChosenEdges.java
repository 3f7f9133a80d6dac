/** Promises 24 to 28, and what "Terms" says of chosen waves. */
final class ChosenEdges {
    private ChosenEdges() {
    }

    static void all() {
        Edges.in("Terms");
        waves();
        sums();
        chosenRows();
        Edges.in("Promise 24");
        addWave();
        Edges.in("Promise 25");
        clearWaves();
        Edges.in("Promise 26");
        getHeight();
        Edges.in("Promise 27");
        getChosen();
        Edges.in("Promise 28");
        takeChosen();
        takeChosenThrows();
    }

    /** Waves as size and phase, one after the other. */
    private static BoxballHall chosen(int... waves) {
        BoxballHall hall = new BoxballHall();
        for (int i = 0; i < waves.length; i += 2) {
            hall.addWave(waves[i], waves[i + 1]);
        }
        return hall;
    }

    private static BoxballHall fullOfWaves() {
        BoxballHall hall = Halls.fullLine();
        hall.addWave(9, 60);
        hall.addWave(1, -60);
        return hall;
    }

    private static void waves() {
        Edges.edge("At most 5 waves are told, each of a size, 1 to 9, and a phase, -60 to 60", () -> {
            BoxballHall hall = chosen(1, -60, 9, 60, 1, 60, 9, -60);
            Check.due("the fifth one", 5, hall.addWave(9, 60));
            Check.thrown("the sixth one", Check.STATE, () -> hall.addWave(9, 60));
            Check.due("five of them", 5, hall.clearWaves());
        });
    }

    private static void sums() {
        Edges.edge("its size times the time, and its phase, both added, and the place taken off", () -> {
            Check.due("the phase alone", 60, chosen(9, 60).getHeight(0, 0));
            Check.due("and its size", 69, chosen(9, 60).getHeight(0, 1));
            Check.due("and its size, earlier", 51, chosen(9, 60).getHeight(0, -1));
            Check.due("and the place", 59, chosen(9, 60).getHeight(1, 0));
            Check.due("and the place ahead", 61, chosen(9, 60).getHeight(-1, 0));
            Check.due("a phase below 0", 39, chosen(1, -60).getHeight(0, 99));
        });
        Edges.edge("for each two of them, twice the lesser of both sizes is taken off", () -> {
            Check.due("two of unlike sizes", 100 - 2 * 2, chosen(2, 50, 9, 50).getHeight(0, 0));
            Check.due("the greater one first", 100 - 2 * 2, chosen(9, 50, 2, 50).getHeight(0, 0));
            Check.due("two alike", 100 - 2 * 5, chosen(5, 50, 5, 50).getHeight(0, 0));
            Check.due("three: three times two", 150 - 2 * (1 + 1 + 2), chosen(1, 50, 2, 50, 3, 50).getHeight(0, 0));
            Check.due("five: ten times two", 600 - 10 * 18, chosen(9, 60, 9, 60, 9, 60, 9, 60, 9, 60).getHeight(-60, 0));
        });
        Edges.edge("The height at a place and a time is the greatest sum of all choices of some of them, 0 for none of them", () -> {
            Check.due("of no waves", 0, chosen().getHeight(-999, 99));
            Check.due("none of them, where one would be below 0", 0, chosen(3, 5).getHeight(6, 0));
            Check.due("one that is 0", 0, chosen(3, 5).getHeight(5, 0));
            Check.due("one that is 1", 1, chosen(3, 5).getHeight(4, 0));
            Check.due("the first one alone", 9, chosen(5, 9, 5, 8).getHeight(0, 0));
            Check.due("the second one alone", 9, chosen(5, 8, 5, 9).getHeight(0, 0));
            Check.due("both, where that is as much", 10, chosen(5, 10, 5, 10).getHeight(0, 0));
            Check.due("both, where that is more", 12, chosen(5, 11, 5, 11).getHeight(0, 0));
            Check.due("the first and the last one", 24, chosen(1, 13, 9, -60, 1, 13).getHeight(0, 0));
        });
    }

    private static String balls(BoxballHall hall, int from, int to, int time) {
        StringBuilder found = new StringBuilder();
        for (int place = from; place <= to; place++) {
            found.append(hall.getChosen(place, time));
        }
        return found.toString();
    }

    private static void chosenRows() {
        Edges.edge("less by how much the height there at the time is more than that at the next place at the time", () -> {
            Check.due("a wave of 3 begins at its phase", "0011100", balls(chosen(3, 5), 3, 9, 0));
            Check.due("and 3 places on at the next time", "0000011100", balls(chosen(3, 5), 3, 12, 1));
            Check.due("and 3 places back at the time before", "0111000", balls(chosen(3, 5), 1, 7, -1));
            Check.due("a wave of 1", "010", balls(chosen(1, 0), -1, 1, 0));
            Check.due("two waves", "0000110000100", balls(chosen(2, 2, 1, 6), -4, 8, 0));
            Check.due("no waves", "000", balls(chosen(), -1, 1, 0));
            isBySlopes(chosen(3, 3, 1, 12, 2, 9));
            isBySlopes(chosen(9, 0, 9, 0, 1, 60, 4, -60, 2, 3));
        });
    }

    private static void isBySlopes(BoxballHall hall) {
        for (int time : new int[] {-3, 0, 4}) {
            for (int place = -10; place <= 10; place++) {
                int next = hall.getHeight(place, time + 1) - hall.getHeight(place + 1, time + 1);
                int now = hall.getHeight(place, time) - hall.getHeight(place + 1, time);
                Check.due("the place " + place + " at " + time, next - now, hall.getChosen(place, time));
            }
        }
    }

    private static void addWave() {
        Edges.edge("Adds a chosen wave", () -> {
            BoxballHall hall = chosen(3, 5);
            hall.addWave(2, 9);
            Check.due("both are there", 14 - 4, hall.getHeight(0, 0));
        });
        Edges.edge("`size`: 1 to 9", () -> {
            Check.range("size", 1, 9, Check.ARGUMENT, Halls::fullLine, (hall, n) -> hall.addWave(n, 0));
            Check.due("1", 99, chosen(1, 0).getHeight(0, 99));
            Check.due("9", 9 * 99, chosen(9, 0).getHeight(0, 99));
        });
        Edges.edge("`phase`: -60 to 60", () -> {
            Check.range("phase", -60, 60, Check.ARGUMENT, Halls::fullLine, (hall, n) -> hall.addWave(1, n));
            Check.due("-60", 0, chosen(1, -60).getHeight(-60, 0));
            Check.due("-60, one place ahead", 1, chosen(1, -60).getHeight(-61, 0));
            Check.due("60", 1, chosen(1, 60).getHeight(59, 0));
        });
        Edges.edge("Returns how many there are", () -> {
            BoxballHall hall = new BoxballHall();
            for (int count = 1; count <= 5; count++) {
                Check.due("waves", count, hall.addWave(count, count));
            }
            hall.clearWaves();
            Check.due("the first one again", 1, hall.addWave(1, 1));
        });
        Edges.edge("Throws `IllegalArgumentException` if a number is out of range", () -> {
            for (int[] given : new int[][] {{0, 61}, {10, -61}, {0, 0}, {10, 0}, {1, 61}, {9, -61}}) {
                String call = "addWave " + given[0] + " " + given[1];
                Check.refused(call, Check.ARGUMENT, Halls::fullLine, hall -> hall.addWave(given[0], given[1]));
            }
        });
        Edges.edge("Throws `IllegalStateException` if there are 5", () -> {
            Check.refused("a sixth one", Check.STATE, ChosenEdges::fullOfWaves, hall -> hall.addWave(1, 1));
            Check.refused("one that is there", Check.STATE, ChosenEdges::fullOfWaves, hall -> hall.addWave(9, 60));
            BoxballHall four = chosen(1, 1, 1, 1, 1, 1, 1, 1);
            Check.due("a fifth one is taken", 5, four.addWave(1, 1));
        });
    }

    private static void clearWaves() {
        Edges.edge("Takes all chosen waves away", () -> {
            BoxballHall hall = chosen(3, 5, 2, 9);
            hall.clearWaves();
            Check.due("no height", 0, hall.getHeight(-999, 99));
            hall.addWave(1, 4);
            Check.due("that of a new one alone", 4, hall.getHeight(0, 0));
            BoxballHall row = Halls.fullLine();
            long sum = row.checksum();
            row.clearWaves();
            Check.due("the row stays", sum, row.checksum());
        });
        Edges.edge("Returns how many there were", () -> {
            Check.due("none", 0, chosen().clearWaves());
            Check.due("one", 1, chosen(1, 1).clearWaves());
            BoxballHall five = fullOfWaves();
            Check.due("five", 5, five.clearWaves());
            Check.due("none any more", 0, five.clearWaves());
        });
    }

    private static void getHeight() {
        Edges.edge("Returns the height.", () -> {
            BoxballHall hall = chosen(9, 60, 9, 60, 9, 60, 9, 60, 9, 60);
            Check.due("the greatest one there is", 5 * (9 * 99 + 60 + 999) - 10 * 18, hall.getHeight(-999, 99));
            Check.due("the least one", 0, hall.getHeight(999, -99));
        });
        Edges.edge("`place`: -999 to 999", () -> {
            Check.range("place", -999, 999, Check.ARGUMENT, Halls::fullLine, (hall, n) -> hall.getHeight(n, 0));
            Check.due("-999", 999, chosen(9, 0).getHeight(-999, 0));
            Check.due("999", 0, chosen(9, 60).getHeight(999, 99));
            Check.due("950, which a wave just reaches", 1, chosen(9, 60).getHeight(950, 99));
        });
        Edges.edge("`time`: -99 to 99", () -> {
            Check.range("time", -99, 99, Check.ARGUMENT, Halls::fullLine, (hall, n) -> hall.getHeight(0, n));
            Check.due("-99", 1, chosen(9, 60).getHeight(60 - 9 * 99 - 1, -99));
            Check.due("99", 1, chosen(9, 60).getHeight(60 + 9 * 99 - 1, 99));
        });
        Edges.edge("Throws `IllegalArgumentException` if a number is out of range", () -> {
            for (int[] given : wrongPlaces()) {
                String call = "getHeight " + given[0] + " " + given[1];
                Check.refused(call, Check.ARGUMENT, Halls::fullLine, hall -> hall.getHeight(given[0], given[1]));
            }
        });
    }

    private static int[][] wrongPlaces() {
        return new int[][] {{-1000, -100}, {1000, 100}, {-1000, 99}, {1000, -99}, {-999, -100}, {999, 100}};
    }

    private static void getChosen() {
        Edges.edge("Returns how many balls a chosen row has at a place", () ->
            Check.due("two waves", "0000110000100", balls(chosen(2, 2, 1, 6), -4, 8, 0)));
        Edges.edge("`place`: -999 to 999", () -> {
            Check.range("place", -999, 999, Check.ARGUMENT, Halls::fullLine, (hall, n) -> hall.getChosen(n, 0));
            // Of five waves alike each one is 18 places behind the one ahead; the fourth one begins at -1005.
            BoxballHall five = chosen(9, -60, 9, -60, 9, -60, 9, -60, 9, -60);
            Check.due("the first places", "11100000000011111111100", balls(five, -999, -977, -99));
            Check.due("the last place, none", 0, chosen(9, 60).getChosen(999, 99));
        });
        Edges.edge("`time`: -99 to 99", () -> {
            Check.range("time", -99, 99, Check.ARGUMENT, Halls::fullLine, (hall, n) -> hall.getChosen(0, n));
            Check.due("at 99, whose next time is 100", "01111111110", balls(chosen(9, 60), 950, 960, 99));
            Check.due("at -99", "01111111110", balls(chosen(9, -60), -952, -942, -99));
        });
        Edges.edge("Returns how many, perhaps below 0", () -> {
            Check.due("none", 0, chosen(3, 5).getChosen(4, 0));
            Check.due("one", 1, chosen(3, 5).getChosen(5, 0));
            Check.due("the last one", 1, chosen(3, 5).getChosen(7, 0));
            Check.due("none behind it", 0, chosen(3, 5).getChosen(8, 0));
        });
        Edges.edge("Throws `IllegalArgumentException` if a number is out of range", () -> {
            for (int[] given : wrongPlaces()) {
                String call = "getChosen " + given[0] + " " + given[1];
                Check.refused(call, Check.ARGUMENT, Halls::fullLine, hall -> hall.getChosen(given[0], given[1]));
            }
        });
    }

    private static void takeChosen() {
        Edges.edge("Makes the row that of chosen waves, a simple line with as many boxes as there are by now", () -> {
            for (int boxes : new int[] {1, 2, 59, 60}) {
                BoxballHall hall = chosen(1, 0, 2, boxes - 1);
                hall.setRow(boxes, 3, true);
                hall.setBalls(boxes - 1, 3);
                hall.takeChosen(0);
                Check.due("boxes", boxes, Halls.countBoxes(hall));
                Check.due("the row", balls(hall, 0, boxes - 1, 0), Halls.balls(hall));
                Check.due("a simple line", false, Check.outcome(hall::countWaves).startsWith("throws"));
                Check.thrown("no ring", Check.REFUSED, () -> hall.getPeriod(1));
                Check.due("nothing is kept", 0, hall.countKept());
                Check.due("the waves stay", 2, hall.clearWaves());
            }
        });
        Edges.edge("`time`: -99 to 99", () -> {
            Check.range("time", -99, 99, Check.ARGUMENT, Halls::fullLine, (hall, n) -> hall.takeChosen(n));
            BoxballHall hall = chosen(1, -60);
            hall.setRow(60, 1, false);
            Check.due("at 99", 1, hall.takeChosen(99));
            Check.due("39 places on", 1, hall.getBalls(39));
            BoxballHall early = chosen(1, 60, 1, 60);
            Check.due("at -99 it is far ahead", 0, early.takeChosen(-99));
        });
        Edges.edge("Returns how many balls it has", () -> {
            Check.due("none", 0, chosen().takeChosen(0));
            Check.due("all of a wave", 9, chosen(9, 1).takeChosen(0));
            Check.due("those that are in boxes alone", 8, chosen(9, 2).takeChosen(0));
            Check.due("those that are in boxes alone", 8, chosen(9, -1).takeChosen(0));
        });
    }

    private static void takeChosenThrows() {
        Edges.edge("Throws `IllegalArgumentException` if a number is out of range", () -> {
            Check.Maker ring = () -> Halls.full("2121", "2101", true);
            Check.range("time", -99, 99, Check.ARGUMENT, ring, (hall, n) -> hall.takeChosen(n));
        });
        // No choice of waves is known whose row has something else in a box; so both are compared, whatever comes.
        Edges.edge("Throws `UnsupportedOperationException` if some box would not have 0 or 1", () -> {
            for (int code = 0; code < 2000; code++) {
                int size = 1 + code % 9;
                int other = 1 + code / 9 % 9;
                int phase = code / 81 % 25 - 12;
                BoxballHall hall = chosen(size, 3, other, 3 + phase, 1 + code % 4, 8, 9, code % 7);
                String row = balls(hall, 0, 9, code % 3 - 1);
                String due = row.matches("[01]*") ? "" + row.chars().filter(sign -> sign == '1').count()
                        : "throws UnsupportedOperationException";
                int time = code % 3 - 1;
                Check.due("waves of the code " + code, due, Check.outcome(() -> hall.takeChosen(time)));
            }
        });
    }
}
