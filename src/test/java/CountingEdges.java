/** Promises 32 to 36, and what "Terms" says of counting. */
final class CountingEdges {
    private CountingEdges() {
    }

    static void all() {
        Edges.in("Terms");
        terms();
        Edges.in("Promise 32");
        type();
        Edges.in("Promise 33");
        wipe();
        Edges.in("Promise 34");
        countRows();
        Edges.in("Promise 35");
        makeRow();
        makeRowThrows();
        Edges.in("Promise 36");
        countImages();
        countImagesThrows();
    }

    private static BoxballHall typed(int... sizes) {
        BoxballHall hall = new BoxballHall();
        for (int size : sizes) {
            hall.type(size);
        }
        return hall;
    }

    private static BoxballHall fullOfSizes() {
        BoxballHall hall = Halls.fullLine();
        hall.type(1);
        hall.type(1);
        hall.type(1);
        return hall;
    }

    private static String binary(int boxes, int number) {
        return Integer.toBinaryString((1 << boxes) + number).substring(1);
    }

    /** The sizes of a row, told as texts are: pairs are taken out of it, round by round. */
    private static String sizesOf(String row) {
        int[] pairs = new int[14];
        int rounds = 0;
        String left = row + "0".repeat(20);
        while (left.contains("1")) {
            String next = left.replace("10", "");
            pairs[rounds] = (left.length() - next.length()) / 2;
            rounds++;
            left = next;
        }
        StringBuilder sizes = new StringBuilder();
        for (int wave = 0; wave < pairs[0]; wave++) {
            int size = 0;
            while (pairs[size] > wave) {
                size++;
            }
            sizes.append(size).append(' ');
        }
        return sizes.toString();
    }

    private static void terms() {
        Edges.edge("A row as a number has the bit 0 for its last box, and so on to the left", () -> {
            BoxballHall hall = typed(1);
            for (int box = 0; box < 12; box++) {
                Check.due("a ball in the box " + (11 - box), 1 << box, hall.makeRow(12, box));
                Check.due("its row", binary(12, 1 << box), Halls.balls(hall));
            }
            Check.due("one box", 1, hall.makeRow(1, 0));
        });
        Edges.edge("whose waves have the sizes that are typed, in whatever order", () -> {
            for (int[] sizes : new int[][] {{}, {1}, {2}, {1, 1}, {2, 1}, {1, 2}, {1, 3, 1}, {9}, {9, 1}, {4, 5}, {5, 4},
                {2, 2, 2}, {1, 1, 1, 1, 1, 1}, {2, 1, 1, 1, 1, 1}, {6, 6}, {9, 9, 9, 9, 9, 9}}) {
                for (int boxes = 1; boxes <= 12; boxes++) {
                    areCounted(boxes, sizes);
                }
            }
        });
        Edges.edge("all rows with so many balls are moved by a step of the capacity 99", () -> {
            int[] rowsOf12 = {1, 12, 66, 220, 495, 792};
            for (int balls = 0; balls <= 5; balls++) {
                Check.due("rings of 12 with " + balls, rowsOf12[balls], new BoxballHall().countImages(12, balls));
            }
        });
    }

    private static void areCounted(int boxes, int[] sizes) {
        int[] sorted = sizes.clone();
        java.util.Arrays.sort(sorted);
        StringBuilder due = new StringBuilder();
        for (int size : sorted) {
            due.insert(0, size + " ");
        }
        int count = 0;
        for (int number = 0; number < 1 << boxes; number++) {
            count += sizesOf(binary(boxes, number)).contentEquals(due) ? 1 : 0;
        }
        Check.due("rows of " + boxes + " with " + due, count, typed(sizes).countRows(boxes));
    }

    private static void type() {
        Edges.edge("Types a size", () -> {
            BoxballHall hall = typed(2);
            Check.due("rows of it", 3, hall.countRows(4));
            hall.type(2);
            Check.due("rows of it twice", 6, hall.countRows(8));
        });
        Edges.edge("`size`: 1 to 9", () -> {
            Check.range("size", 1, 9, Check.ARGUMENT, Halls::fullLine, (hall, n) -> hall.type(n));
            Check.due("1", 12, typed(1).countRows(12));
            Check.due("9", 4, typed(9).countRows(12));
            Check.due("9 in as many boxes", 1, typed(9).countRows(9));
            Check.due("9 in fewer", 0, typed(9).countRows(8));
        });
        Edges.edge("Returns how many are typed", () -> {
            BoxballHall hall = new BoxballHall();
            for (int count = 1; count <= 6; count++) {
                Check.due("sizes", count, hall.type(9));
            }
            hall.wipe();
            Check.due("the first one again", 1, hall.type(9));
        });
        Edges.edge("Throws `IllegalArgumentException` if a number is out of range", () -> {
            Check.refused("0 of none", Check.ARGUMENT, BoxballHall::new, hall -> hall.type(0));
            Check.refused("10 of none", Check.ARGUMENT, BoxballHall::new, hall -> hall.type(10));
        });
        Edges.edge("Throws `IllegalStateException` if there are 6", () -> {
            Check.due("six are taken", 6, fullOfSizes().wipe());
            Check.refused("a seventh one", Check.STATE, CountingEdges::fullOfSizes, hall -> hall.type(1));
            Check.refused("a seventh one of 9", Check.STATE, CountingEdges::fullOfSizes, hall -> hall.type(9));
        });
    }

    private static void wipe() {
        Edges.edge("Wipes what is typed", () -> {
            BoxballHall hall = fullOfSizes();
            hall.wipe();
            Check.due("the empty row alone has no waves", 1, hall.countRows(12));
            hall.type(3);
            Check.due("a new size alone", 1, hall.countRows(3));
            BoxballHall row = Halls.fullLine();
            long sum = row.checksum();
            row.wipe();
            Check.due("the row stays", sum, row.checksum());
        });
        Edges.edge("Returns how many there were", () -> {
            Check.due("none", 0, typed().wipe());
            Check.due("one", 1, typed(9).wipe());
            BoxballHall six = fullOfSizes();
            Check.due("six", 6, six.wipe());
            Check.due("none any more", 0, six.wipe());
        });
    }

    private static void countRows() {
        Edges.edge("Returns how many lines have the sizes that are typed", () -> {
            Check.due("two waves", 3, typed(1, 1).countRows(4));
            BoxballHall hall = Halls.full("1221", "1021", true);
            hall.countRows(12);
            Check.due("no row is changed", Halls.all(Halls.full("1221", "1021", true)), Halls.all(hall));
        });
        Edges.edge("`boxes`: 1 to 12", () -> {
            Check.range("boxes", 1, 12, Check.ARGUMENT, Halls::fullLine, (hall, n) -> hall.countRows(n));
            Check.due("1", 1, typed(1).countRows(1));
            Check.due("12", 12, typed(1).countRows(12));
        });
        Edges.edge("Returns how many.", () -> {
            Check.due("none", 0, typed(1, 1).countRows(2));
            Check.due("one", 1, typed(1, 1).countRows(3));
            Check.due("one without sizes", 1, typed().countRows(1));
            Check.due("one without sizes", 1, typed().countRows(12));
            Check.due("none, as the sizes are too many", 0, typed(9, 9, 9, 9, 9, 9).countRows(12));
        });
        Edges.edge("Throws `IllegalArgumentException` if a number is out of range", () -> {
            Check.refused("0 of none", Check.ARGUMENT, BoxballHall::new, hall -> hall.countRows(0));
            Check.refused("13 of none", Check.ARGUMENT, BoxballHall::new, hall -> hall.countRows(13));
        });
    }

    private static void makeRow() {
        Edges.edge("Makes the row one of these", () -> {
            BoxballHall hall = Halls.full("2222", "2100", true);
            hall.makeRow(6, 0);
            Check.thrown("a line", Check.REFUSED, () -> hall.getPeriod(1));
            Check.due("a simple line of these sizes", "3 2 1 1", hall.countWaves() + " " + hall.getSize(0) + " "
                    + hall.getSize(1) + " " + hall.getSize(2));
            Check.due("no row is kept", 0, hall.countKept());
            Check.due("the sizes stay", 3, hall.wipe());
        });
        Edges.edge("`boxes`: 1 to 12", () -> {
            Check.range("boxes", 1, 12, Check.ARGUMENT, BoxballHall::new, (hall, n) -> hall.makeRow(n, 0));
            for (int boxes : new int[] {1, 2, 11, 12}) {
                BoxballHall hall = typed(1);
                hall.setRow(60, 4, true);
                hall.makeRow(boxes, 0);
                Check.due("boxes", "0".repeat(boxes - 1) + "1", Halls.balls(hall));
            }
        });
        Edges.edge("`index`: the index, from 0, by rising numbers", () -> {
            BoxballHall hall = typed(2, 1);
            int last = -1;
            for (int index = 0; index < 12; index++) {
                int number = hall.makeRow(6, index);
                Check.due("it rises", true, number > last);
                Check.due("its sizes", "2 1 ", sizesOf(binary(6, number)));
                last = number;
            }
            Check.due("the first one", 11, hall.makeRow(6, 0));
            Check.due("the last one", last, hall.makeRow(6, 11));
        });
        Edges.edge("Returns the number of the row", () -> {
            Check.due("the least one", 0, typed().makeRow(12, 0));
            Check.due("1365", 1365, typed(1, 1, 1, 1, 1, 1).makeRow(11, 0));
            Check.due("the greatest one of 9", 0xFF8, typed(9).makeRow(12, 3));
            Check.due("all boxes", 0x1FF, typed(9).makeRow(9, 0));
        });
    }

    private static void makeRowThrows() {
        Edges.edge("Throws `IllegalArgumentException` if a number is out of range", () -> {
            Check.refused("0 and no such row", Check.ARGUMENT, Halls::fullLine, hall -> hall.makeRow(0, 9999));
            Check.refused("13 and no such row", Check.ARGUMENT, Halls::fullLine, hall -> hall.makeRow(13, 9999));
        });
        Edges.edge("Throws `NoSuchElementException` if there is none", () -> {
            Check.Maker two = () -> typed(2, 1);
            Check.range("index", 0, 11, Check.NONE, two, (hall, n) -> hall.makeRow(6, n));
            Check.range("index of the empty row", 0, 0, Check.NONE, BoxballHall::new, (hall, n) -> hall.makeRow(12, n));
            Check.refused("behind the last one", Check.NONE, Halls::fullLine, hall -> hall.makeRow(12, 4096));
            Check.refused("of none at all", Check.NONE, () -> typed(9, 9), hall -> hall.makeRow(12, 0));
            Check.refused("of none in so few boxes", Check.NONE, () -> typed(2), hall -> hall.makeRow(1, 0));
        });
    }

    private static void countImages() {
        Edges.edge("Returns how many unlike rows come of all rings with so many balls by a step", () -> {
            Check.due("84 of 84", 84, new BoxballHall().countImages(9, 3));
            BoxballHall hall = Halls.full("1221", "1021", true);
            hall.countImages(12, 5);
            Check.due("no row is changed", Halls.all(Halls.full("1221", "1021", true)), Halls.all(hall));
            BoxballHall twice = new BoxballHall();
            twice.countImages(12, 5);
            Check.due("none of the call before is counted", 1, twice.countImages(12, 0));
        });
        Edges.edge("`boxes`: 1 to 12", () -> {
            Check.range("boxes", 1, 12, Check.ARGUMENT, Halls::fullLine, (hall, n) -> hall.countImages(n, 0));
            Check.due("1", 1, new BoxballHall().countImages(1, 0));
            Check.due("12", 12, new BoxballHall().countImages(12, 1));
        });
        Edges.edge("`balls`: 0 to 12", () -> {
            for (int balls : new int[] {-1, 13, Check.MIN, Check.MAX}) {
                Check.refused("balls " + balls, Check.ARGUMENT, Halls::fullLine, hall -> hall.countImages(12, balls));
            }
            Check.due("0", 1, new BoxballHall().countImages(12, 0));
            Check.refused("12 are not out of range", Check.REFUSED, Halls::fullLine, hall -> hall.countImages(12, 12));
        });
        Edges.edge("Returns how many.", () -> {
            Check.due("one", 1, new BoxballHall().countImages(2, 0));
            Check.due("two of 5 boxes", 10, new BoxballHall().countImages(5, 2));
            Check.due("all there can be", 792, new BoxballHall().countImages(12, 5));
        });
    }

    private static void countImagesThrows() {
        Edges.edge("Throws `IllegalArgumentException` if a number is out of range", () -> {
            for (int[] given : new int[][] {{0, 0}, {13, 0}, {0, 13}, {13, -1}, {12, 13}, {1, -1}}) {
                String call = "countImages " + given[0] + " " + given[1];
                Check.refused(call, Check.ARGUMENT, Halls::fullLine, hall -> hall.countImages(given[0], given[1]));
            }
        });
        Edges.edge("Throws `UnsupportedOperationException` if there are not fewer balls than half of the boxes", () -> {
            for (int boxes = 1; boxes <= 12; boxes++) {
                int all = boxes;
                int most = (boxes - 1) / 2;
                BoxballHall hall = new BoxballHall();
                Check.due("fewer than half of " + boxes, false, Check.outcome(() -> hall.countImages(all, most)).startsWith("throws"));
                for (int balls : new int[] {most + 1, boxes, 12}) {
                    String call = balls + " of " + boxes;
                    Check.refused(call, Check.REFUSED, Halls::fullLine, one -> one.countImages(all, balls));
                }
            }
        });
    }
}
