/** Promises 22 and 23, and what "Terms" says of exchanges. */
final class ExchangeEdges {
    private ExchangeEdges() {
    }

    static void all() {
        Edges.in("Terms");
        pieces();
        turns();
        Edges.in("Promise 22");
        exchange();
        exchangeThrows();
        Edges.in("Promise 23");
        turnRound();
        turnRoundThrows();
    }

    private static String exchanged(int capacity, int balls, int other, int others) {
        BoxballHall hall = new BoxballHall();
        return hall.exchange(capacity, balls, other, others, true) + " " + hall.exchange(capacity, balls, other, others, false);
    }

    private static String turned(int capacities, int balls) {
        BoxballHall hall = new BoxballHall();
        return hall.turnRound(capacities, balls, true) + " " + hall.turnRound(capacities, balls, false);
    }

    private static void pieces() {
        Edges.edge("A piece has a capacity, 1 to 9, and so many balls, at most", () -> {
            for (int capacity = 1; capacity <= 9; capacity++) {
                Check.due("empty ones of " + capacity, "0 0", exchanged(capacity, 0, capacity, 0));
                Check.due("full ones of " + capacity, capacity + " " + capacity, exchanged(capacity, capacity, capacity, capacity));
                Check.due("three full ones", 111 * capacity + " " + 111 * capacity, turned(111 * capacity, 111 * capacity));
            }
        });
        Edges.edge("To exchange two pieces is what a step does to a carrier, the first one, and a box, the second one", () -> {
            Check.due("fewer than the box has room for", "1 0", exchanged(3, 1, 2, 0));
            Check.due("exactly as many", "2 0", exchanged(3, 2, 2, 0));
            Check.due("one more", "2 1", exchanged(3, 3, 2, 0));
            Check.due("together fewer than the carrier holds", "1 3", exchanged(5, 2, 3, 2));
            Check.due("together exactly as many", "1 3", exchanged(4, 2, 3, 2));
            Check.due("together one more", "2 2", exchanged(3, 2, 3, 2));
            Check.due("an empty carrier", "0 3", exchanged(5, 0, 4, 3));
            Check.due("an empty box", "2 3", exchanged(5, 5, 2, 0));
            Check.due("both full", "4 3", exchanged(3, 3, 4, 4));
        });
        Edges.edge("the box comes first then", () -> {
            Check.due("a narrow box and a wide carrier", "1 9", exchanged(9, 9, 1, 1));
            Check.due("a narrow carrier and a wide box", "9 1", exchanged(1, 1, 9, 9));
            Check.due("from a wide box to a narrow carrier", "8 1", exchanged(1, 0, 9, 9));
            Check.due("from a wide carrier to a narrow box", "1 8", exchanged(9, 9, 1, 0));
        });
    }

    private static void turns() {
        Edges.edge("by exchanging the first two, then the last two, then the first two", () -> {
            BoxballHall hall = new BoxballHall();
            // 32 21 10, then 21 32 10, then 21 11 31, then 10 22 31, each one a capacity and its balls.
            Check.due("321 210", 21, hall.turnRound(321, 210, true));
            Check.due("915 900", 513, hall.turnRound(915, 900, true));
        });
        Edges.edge("or the last two, then the first two, then the last two", () -> {
            BoxballHall hall = new BoxballHall();
            // 32 21 10, then 32 11 20, then 10 33 20, then 10 22 31.
            Check.due("321 210", 21, hall.turnRound(321, 210, false));
            Check.due("915 900", 513, hall.turnRound(915, 900, false));
        });
    }

    private static void exchange() {
        Edges.edge("Exchanges two pieces", () -> {
            Check.due("both", "1 2", exchanged(3, 2, 2, 1));
            BoxballHall hall = Halls.fullLine();
            hall.exchange(3, 2, 2, 1, true);
            Check.due("no row is changed", Halls.all(Halls.fullLine()), Halls.all(hall));
        });
        Edges.edge("`capacity`: that of the first piece, 1 to 9", () ->
            Check.range("capacity", 1, 9, Check.ARGUMENT, Halls::fullLine, (hall, n) -> hall.exchange(n, 1, 5, 5, true)));
        Edges.edge("`balls`: its balls", () -> {
            for (int capacity = 1; capacity <= 9; capacity++) {
                int most = capacity;
                Check.OnNumber on = (hall, n) -> hall.exchange(most, n, 5, 0, true);
                Check.range("balls of " + most, 0, most, Check.ARGUMENT, Halls::fullLine, on);
            }
        });
        Edges.edge("`other`: the capacity of the second one, 1 to 9", () ->
            Check.range("other", 1, 9, Check.ARGUMENT, Halls::fullLine, (hall, n) -> hall.exchange(5, 5, n, 1, false)));
        Edges.edge("`others`: its balls", () -> {
            for (int capacity = 1; capacity <= 9; capacity++) {
                int most = capacity;
                Check.OnNumber on = (hall, n) -> hall.exchange(5, 0, most, n, false);
                Check.range("others of " + most, 0, most, Check.ARGUMENT, Halls::fullLine, on);
            }
        });
        Edges.edge("whether the piece that comes first then is meant, with the capacity of the second one", () -> {
            BoxballHall hall = new BoxballHall();
            Check.due("the first one holds no more than the second one did", 1, hall.exchange(9, 9, 1, 0, true));
            Check.due("the other one", 8, hall.exchange(9, 9, 1, 0, false));
        });
        Edges.edge("Returns how many balls it has", () -> {
            Check.due("none and none", "0 0", exchanged(9, 0, 9, 0));
            Check.due("all there can be", "9 9", exchanged(9, 9, 9, 9));
        });
    }

    private static void exchangeThrows() {
        Edges.edge("if a capacity is out of range, or there are more balls, or fewer than 0", () -> {
            int[][] wrong = {{0, 0, 1, 1}, {10, 10, 1, 1}, {1, 1, 0, 0}, {1, 1, 10, 10}, {3, 4, 4, 4}, {3, -1, 4, 4},
                {4, 4, 3, 4}, {4, 4, 3, -1}, {0, 1, 0, 1}, {Check.MAX, Check.MAX, 1, 1}, {1, 1, Check.MAX, Check.MAX},
                {Check.MIN, Check.MIN, 1, 1}, {1, Check.MAX, 1, Check.MAX}, {1, Check.MIN, 1, Check.MIN}};
            for (int[] given : wrong) {
                String call = "exchange " + java.util.Arrays.toString(given);
                for (boolean isFirst : new boolean[] {true, false}) {
                    Check.refused(call + " " + isFirst, Check.ARGUMENT, Halls::fullLine,
                            hall -> hall.exchange(given[0], given[1], given[2], given[3], isFirst));
                }
            }
        });
    }

    private static void turnRound() {
        Edges.edge("Turns three pieces round", () -> {
            Check.due("pieces of one capacity stay as they are", "100 100", turned(111, 100));
            Check.due("pieces of three capacities", "21 21", turned(321, 210));
            BoxballHall hall = Halls.fullLine();
            hall.turnRound(321, 210, true);
            Check.due("no row is changed", Halls.all(Halls.fullLine()), Halls.all(hall));
        });
        Edges.edge("those of the first, second and third one, as three digits, none 0", () -> {
            Check.OnNumber on = (hall, n) -> hall.turnRound(n, 0, true);
            Check.range("capacities", 111, 999, Check.ARGUMENT, Halls::fullLine, on);
            for (int capacities : new int[] {911, 191, 119, 199, 919, 991}) {
                Check.due("empty ones of " + capacities, "0 0", turned(capacities, 0));
            }
            for (int capacities : new int[] {101, 120, 201, 210, 900, 909, 990, 100, 99, 11, 9, 0, 1111, -111, -999}) {
                Check.refused("capacities " + capacities, Check.ARGUMENT, Halls::fullLine, hall -> hall.turnRound(capacities, 0, false));
            }
        });
        Edges.edge("`balls`: their balls, as three digits", () -> {
            Check.range("balls", 0, 999, Check.ARGUMENT, Halls::fullLine, (hall, n) -> hall.turnRound(999, n, true));
            Check.due("digits of 0 ahead", "21 21", turned(999, 21));
            Check.due("two of them", "1 1", turned(999, 1));
            Check.due("digits of 0 behind", "900 900", turned(999, 900));
            Check.due("one in the middle", "90 90", turned(999, 90));
        });
        Edges.edge("`isFirst`: whether the first two are exchanged first", () ->
            Check.due("both ways end alike", "513 513", turned(915, 900)));
        Edges.edge("Returns their balls then, as three digits, the third one first", () -> {
            Check.due("full ones", "129 129", turned(921, 921));
            Check.due("none", "0 0", turned(921, 0));
            Check.due("all there can be", "999 999", turned(999, 999));
        });
    }

    private static void turnRoundThrows() {
        Edges.edge("if they are not three digits, or some has more balls than its capacity", () -> {
            for (int balls : new int[] {322, 331, 421, 999, 400, 30, 2, 1000, 1321, -1, -321}) {
                for (boolean isFirst : new boolean[] {true, false}) {
                    Check.refused("turnRound 321 " + balls + " " + isFirst, Check.ARGUMENT, Halls::fullLine,
                            hall -> hall.turnRound(321, balls, isFirst));
                }
            }
            Check.due("as many as they hold is taken", "123 123", turned(321, 321));
            Check.refused("both wrong", Check.ARGUMENT, Halls::fullLine, hall -> hall.turnRound(0, 1000, true));
        });
    }
}
