/** Promises 37 and 38, and what "Terms" says of queues. */
final class QueueEdges {
    private QueueEdges() {
    }

    static void all() {
        Edges.in("Terms");
        terms();
        Edges.in("Promise 37");
        setTime();
        Edges.in("Promise 38");
        getLeaving();
    }

    /** Times as customer, server and time, one after the other. */
    private static BoxballHall timed(int... times) {
        BoxballHall hall = new BoxballHall();
        for (int i = 0; i < times.length; i += 3) {
            hall.setTime(times[i], times[i + 1], times[i + 2]);
        }
        return hall;
    }

    private static int[][] noPlaces() {
        return new int[][] {{-1, 0}, {8, 0}, {0, -1}, {0, 6}, {7, 6}, {8, 5}, {6, 6}, {-1, -1}, {8, 6},
            {Check.MIN, 0}, {Check.MAX, 0}, {0, Check.MIN}, {0, Check.MAX}};
    }

    private static void terms() {
        Edges.edge("At most 8 customers, numbered from 0, go through at most 6 servers, numbered from 0", () -> {
            BoxballHall hall = timed(7, 5, 9, 0, 0, 4);
            Check.due("the last one at the last one", 13, hall.getLeaving(7, 5));
            Check.due("the first one at the first one", 4, hall.getLeaving(0, 0));
            Check.due("the last one at the server ahead", 4, hall.getLeaving(7, 4));
            Check.due("the one ahead at the last server", 4, hall.getLeaving(6, 5));
        });
        Edges.edge("each takes a time, 0 to 99, 0 at first, of each", () -> {
            BoxballHall hall = new BoxballHall();
            for (int i = 0; i < 48; i++) {
                Check.due("at first", 0, hall.setTime(i / 6, i % 6, i + 1));
            }
            for (int i = 0; i < 48; i++) {
                Check.due("its own", i + 1, hall.setTime(i / 6, i % 6, 0));
            }
        });
        Edges.edge("One is served as soon as it left the server ahead, and the customer ahead left this one", () -> {
            Check.due("it waits for the customer ahead", 5 + 2, timed(0, 0, 5, 1, 0, 2).getLeaving(1, 0));
            Check.due("it comes from the server ahead", 5 + 3, timed(0, 0, 5, 0, 1, 3).getLeaving(0, 1));
            Check.due("the server ahead is later", 5 + 2 + 4, timed(0, 0, 5, 0, 1, 1, 1, 0, 2, 1, 1, 4).getLeaving(1, 1));
            Check.due("the customer ahead is later", 5 + 3 + 4, timed(0, 0, 5, 0, 1, 3, 1, 0, 2, 1, 1, 4).getLeaving(1, 1));
            Check.due("both at once", 5 + 2 + 4, timed(0, 0, 5, 0, 1, 2, 1, 0, 2, 1, 1, 4).getLeaving(1, 1));
            Check.due("one that takes no time waits too", 7, timed(0, 0, 7).getLeaving(7, 5));
        });
        Edges.edge("the first ones from the time 0", () -> {
            Check.due("no times", 0, timed().getLeaving(0, 0));
            Check.due("the first one", 99, timed(0, 0, 99).getLeaving(0, 0));
            Check.due("a later one, where those ahead take no time", 9, timed(7, 0, 9).getLeaving(7, 0));
            Check.due("at a later server", 9, timed(0, 5, 9).getLeaving(0, 5));
        });
    }

    private static void setTime() {
        Edges.edge("Sets the time that a customer takes of a server", () -> {
            BoxballHall hall = timed(3, 2, 7);
            Check.due("of that server", 7, hall.getLeaving(3, 2));
            Check.due("not of the one ahead", 0, hall.getLeaving(3, 1));
            Check.due("not of the customer ahead", 0, hall.getLeaving(2, 5));
            hall.setTime(3, 2, 0);
            Check.due("none any more", 0, hall.getLeaving(7, 5));
        });
        Edges.edge("`customer`: 0 to 7", () ->
            Check.range("customer", 0, 7, Check.INDEX, Halls::fullLine, (hall, n) -> hall.setTime(n, 0, 5)));
        Edges.edge("`server`: 0 to 5", () ->
            Check.range("server", 0, 5, Check.INDEX, Halls::fullLine, (hall, n) -> hall.setTime(0, n, 5)));
        Edges.edge("`time`: 0 to 99", () ->
            Check.range("time", 0, 99, Check.ARGUMENT, Halls::fullLine, (hall, n) -> hall.setTime(7, 5, n)));
        Edges.edge("Returns the time before", () -> {
            BoxballHall hall = timed(0, 0, 99, 7, 5, 1);
            Check.due("99", 99, hall.setTime(0, 0, 0));
            Check.due("0", 0, hall.setTime(0, 0, 5));
            Check.due("1", 1, hall.setTime(7, 5, 1));
            Check.thrown("a refused one", Check.ARGUMENT, () -> hall.setTime(7, 5, 100));
            Check.due("1 still", 1, hall.setTime(7, 5, 0));
        });
        Edges.edge("Throws `IndexOutOfBoundsException` if there is no such customer or server", () -> {
            for (int[] place : noPlaces()) {
                String call = "setTime " + place[0] + " " + place[1];
                Check.refused(call, Check.INDEX, Halls::fullLine, hall -> hall.setTime(place[0], place[1], 5));
            }
        });
        Edges.edge("Throws `IllegalArgumentException` if a number is out of range", () -> {
            Check.refused("-1", Check.ARGUMENT, Halls::fullLine, hall -> hall.setTime(0, 0, -1));
            Check.refused("100", Check.ARGUMENT, Halls::fullLine, hall -> hall.setTime(7, 0, 100));
        });
    }

    private static void getLeaving() {
        Edges.edge("Returns when a customer leaves a server", () -> {
            BoxballHall hall = timed(0, 0, 5, 0, 1, 3, 1, 0, 1, 1, 1, 4);
            Check.due("5 8 6 12", "5 8 6 12", hall.getLeaving(0, 0) + " " + hall.getLeaving(0, 1) + " "
                    + hall.getLeaving(1, 0) + " " + hall.getLeaving(1, 1));
        });
        Edges.edge("`customer`: 0 to 7", () ->
            Check.range("customer", 0, 7, Check.INDEX, Halls::fullLine, (hall, n) -> hall.getLeaving(n, 0)));
        Edges.edge("`server`: 0 to 5", () ->
            Check.range("server", 0, 5, Check.INDEX, Halls::fullLine, (hall, n) -> hall.getLeaving(0, n)));
        Edges.edge("Returns the time.", () -> {
            BoxballHall hall = new BoxballHall();
            Check.due("the least one", 0, hall.getLeaving(7, 5));
            for (int i = 0; i < 48; i++) {
                hall.setTime(i % 8, i / 8, 99);
            }
            Check.due("the greatest one", 13 * 99, hall.getLeaving(7, 5));
            Check.due("of the last server", 6 * 99, hall.getLeaving(0, 5));
            Check.due("of the last customer", 8 * 99, hall.getLeaving(7, 0));
        });
        Edges.edge("Throws `IndexOutOfBoundsException` if there is no such customer or server", () -> {
            for (int[] place : noPlaces()) {
                String call = "getLeaving " + place[0] + " " + place[1];
                Check.refused(call, Check.INDEX, Halls::fullLine, hall -> hall.getLeaving(place[0], place[1]));
            }
        });
    }
}
