/** Promises 29 to 31, and what "Terms" says of small laws. */
final class LawEdges {
    private LawEdges() {
    }

    static void all() {
        Edges.in("Terms");
        terms();
        Edges.in("Promise 29");
        obeys();
        Edges.in("Promise 30");
        keepsNumbers();
        Edges.in("Promise 31");
        move();
    }

    private static String moved(String balls, int law) {
        BoxballHall hall = Halls.ring(balls);
        hall.move(law);
        return Halls.balls(hall);
    }

    private static void terms() {
        Edges.edge("4 for a ball to the left, 2 for one in it, and 1 for one to the right", () -> {
            Check.due("a ball to the left alone", "01000", moved("10000", 1 << 4));
            Check.due("one in it alone", "10000", moved("10000", 1 << 2));
            Check.due("one to the right alone", "00001", moved("10000", 1 << 1));
            Check.due("none", "00110", moved("10000", 1));
            Check.due("to the left and in it", "01000", moved("11000", 1 << 6));
            Check.due("in it and to the right", "10000", moved("11000", 1 << 3));
            Check.due("to the left and to the right", "01000", moved("10100", 1 << 5));
            Check.due("all three", "01000", moved("11100", 1 << 7));
            Check.due("all three round the end", "10000", moved("11001", 1 << 7));
        });
        Edges.edge("on a ring of 1 box it is its own neighbour, on one of 2 the other one is both", () -> {
            for (int neighbours = 0; neighbours < 8; neighbours++) {
                int law = 1 << neighbours;
                Check.due("1 box with a ball, " + law, neighbours == 7 ? "1" : "0", moved("1", law));
                Check.due("1 box without, " + law, neighbours == 0 ? "1" : "0", moved("0", law));
                String due = (neighbours == 2 ? "1" : "0") + (neighbours == 5 ? "1" : "0");
                Check.due("2 boxes, " + law, due, moved("10", law));
                Check.due("2 full boxes, " + law, neighbours == 7 ? "11" : "00", moved("11", law));
                Check.due("2 empty boxes, " + law, neighbours == 0 ? "11" : "00", moved("00", law));
            }
            Check.due("3 boxes: both sides are unlike", "010", moved("100", 1 << 4));
        });
        Edges.edge("It keeps numbers if each ring of 3 to 7 boxes has as many balls behind it", () -> {
            BoxballHall hall = new BoxballHall();
            for (int law = 0; law <= 255; law++) {
                Check.due("the law " + law, keepsAllRings(law), hall.keepsNumbers(law));
            }
        });
    }

    /** By texts: on each ring of 3 to 7 boxes. */
    private static boolean keepsAllRings(int law) {
        for (int boxes = 3; boxes <= 7; boxes++) {
            for (int number = 0; number < 1 << boxes; number++) {
                String ring = Integer.toBinaryString((1 << boxes) + number).substring(1);
                String rounded = ring.charAt(boxes - 1) + ring + ring.charAt(0);
                int balls = 0;
                for (int box = 0; box < boxes; box++) {
                    balls += law >> Integer.parseInt(rounded.substring(box, box + 3), 2) & 1;
                }
                if (balls != Integer.bitCount(number)) {
                    return false;
                }
            }
        }
        return true;
    }

    private static void obeys() {
        Edges.edge("Returns what a law makes of a box", () -> {
            for (int law : new int[] {0, 1, 90, 128, 184, 254, 255}) {
                BoxballHall hall = new BoxballHall();
                for (int neighbours = 0; neighbours < 8; neighbours++) {
                    Check.due(law + " of " + neighbours, (law >> neighbours) % 2 == 1, hall.obeys(law, neighbours));
                }
            }
        });
        Edges.edge("`law`: 0 to 255", () -> {
            Check.range("law", 0, 255, Check.ARGUMENT, Halls::fullLine, (hall, n) -> hall.obeys(n, 0));
            Check.due("0", false, new BoxballHall().obeys(0, 0));
            Check.due("255", true, new BoxballHall().obeys(255, 7));
        });
        Edges.edge("`neighbours`: 0 to 7, the number of the bit", () -> {
            Check.range("neighbours", 0, 7, Check.ARGUMENT, Halls::fullLine, (hall, n) -> hall.obeys(255, n));
            Check.due("0", true, new BoxballHall().obeys(1, 0));
            Check.due("7", true, new BoxballHall().obeys(128, 7));
            Check.due("7 of a law without it", false, new BoxballHall().obeys(127, 7));
        });
        Edges.edge("Returns whether it has a ball", () -> {
            Check.due("184 of 5", true, new BoxballHall().obeys(184, 5));
            Check.due("184 of 6", false, new BoxballHall().obeys(184, 6));
        });
        Edges.edge("Throws `IllegalArgumentException` if a number is out of range", () -> {
            for (int[] given : new int[][] {{-1, -1}, {256, 8}, {-1, 0}, {256, 7}, {0, -1}, {255, 8}, {0, 32}}) {
                String call = "obeys " + given[0] + " " + given[1];
                Check.refused(call, Check.ARGUMENT, Halls::fullLine, hall -> hall.obeys(given[0], given[1]));
            }
        });
    }

    private static void keepsNumbers() {
        Edges.edge("Tells whether a law keeps numbers", () -> {
            BoxballHall hall = Halls.full("11111", "11010", true);
            hall.keepsNumbers(184);
            Check.due("no row is changed", Halls.all(Halls.full("11111", "11010", true)), Halls.all(hall));
        });
        Edges.edge("`law`: 0 to 255", () -> {
            Check.range("law", 0, 255, Check.ARGUMENT, Halls::fullLine, (hall, n) -> hall.keepsNumbers(n));
            Check.due("0", false, new BoxballHall().keepsNumbers(0));
            Check.due("255", false, new BoxballHall().keepsNumbers(255));
        });
        Edges.edge("Returns whether it does", () -> {
            Check.due("nothing moves", true, new BoxballHall().keepsNumbers(204));
            Check.due("all move", true, new BoxballHall().keepsNumbers(240));
            Check.due("one bit more than that", false, new BoxballHall().keepsNumbers(241));
        });
        Edges.edge("Throws `IllegalArgumentException` if a number is out of range", () -> {
            Check.refused("-184", Check.ARGUMENT, Halls::fullLine, hall -> hall.keepsNumbers(-184));
            Check.refused("184 and 256", Check.ARGUMENT, Halls::fullLine, hall -> hall.keepsNumbers(184 + 256));
        });
    }

    private static void move() {
        Edges.edge("Moves a simple ring by a law", () -> {
            Check.due("all at once", "101010", moved("110100", 184));
            Check.due("from the last box to the first one", "1" + "0".repeat(59), moved("0".repeat(59) + "1", 240));
            Check.due("from the first box to the last one", "0".repeat(59) + "1", moved("1" + "0".repeat(59), 170));
            BoxballHall hall = Halls.ring("110100");
            hall.move(184);
            Check.due("none is kept", 0, hall.countKept());
            Check.due("it is a ring still", "010101", moved("101010", 184));
        });
        Edges.edge("`law`: 0 to 255", () -> {
            Check.Maker maker = () -> Halls.full("11111", "11010", true);
            Check.range("law", 0, 255, Check.ARGUMENT, maker, (hall, n) -> hall.move(n));
            Check.due("0", "00000", moved("11010", 0));
            Check.due("255", "11111", moved("11010", 255));
        });
        Edges.edge("Returns how many balls there are then", () -> {
            Check.due("none", 0, Halls.ring("111").move(0));
            Check.due("all", 60, Halls.ring("0".repeat(60)).move(255));
            Check.due("as many", 3, Halls.ring("110100").move(184));
            Check.due("others than there were", 4, Halls.ring("110100").move(90));
        });
        Edges.edge("Throws `IllegalArgumentException` if a number is out of range", () ->
            Check.range("law, one box", 0, 255, Check.ARGUMENT, () -> Halls.full("1", "1", true), (hall, n) -> hall.move(n)));
        Edges.edge("Throws `UnsupportedOperationException` if the row is no simple ring", () -> {
            Check.refused("a simple line", Check.REFUSED, Halls::fullLine, hall -> hall.move(204));
            Check.refused("a line", Check.REFUSED, () -> Halls.full("22", "11", false), hall -> hall.move(204));
            Check.refused("a first box of 2", Check.REFUSED, () -> Halls.full("211", "100", true), hall -> hall.move(204));
            Check.refused("a last box of 2", Check.REFUSED, () -> Halls.full("112", "100", true), hall -> hall.move(204));
            Check.refused("one box of 4", Check.REFUSED, () -> Halls.full("4", "1", true), hall -> hall.move(204));
        });
    }
}
