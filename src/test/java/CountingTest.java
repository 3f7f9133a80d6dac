/** Promises 32 to 36: rows counted by their waves, and images on rings. */
public final class CountingTest {
    private static final int MIN = Integer.MIN_VALUE;
    private static final int MAX = Integer.MAX_VALUE;
    private static final int[] NO_BOXES = {0, 13, -1, MIN, MAX};

    public static void main(String[] args) {
        type();
        wipe();
        countRows();
        countAllRows();
        makeRow();
        makeRowTellsAnewRow();
        makeRowWrong();
        countImages();
        countImagesWrong();
        Check.end("CountingTest");
    }

    private static BoxballHall typed(int... sizes) {
        BoxballHall hall = new BoxballHall();
        for (int size : sizes) {
            hall.type(size);
        }
        return hall;
    }

    private static void type() {
        BoxballHall hall = new BoxballHall();
        int[] sizes = {1, 9, 1, 5, 2, 2};
        for (int typed = 1; typed <= 6; typed++) {
            Check.due("typed", typed, hall.type(sizes[typed - 1]));
        }
        Check.thrown("a seventh size", Check.STATE, () -> hall.type(1));
        for (int size : new int[] {0, 10, -1, MIN, MAX}) {
            Check.thrown("the size " + size, Check.ARGUMENT, () -> new BoxballHall().type(size));
            Check.thrown("a seventh size, wrong too", Check.ARGUMENT, () -> hall.type(size));
        }
        hall.setRow(4, 1, false);
        Check.due("they stay when a row is told", 6, hall.wipe());
    }

    private static void wipe() {
        BoxballHall hall = typed(3, 1);
        Check.due("wiped", 2, hall.wipe());
        Check.due("only the empty row has no waves", 1, hall.countRows(5));
        Check.due("none are left", 0, hall.wipe());
        Check.due("a first one again", 1, hall.type(1));
        Check.due("it alone counts", 5, hall.countRows(5));
    }

    private static void areRows(int boxes, int count, int... sizes) {
        Check.due("rows of " + boxes + " with " + sizes.length + " waves", count, typed(sizes).countRows(boxes));
    }

    private static void countRows() {
        areRows(4, 3, 1, 1);
        areRows(6, 12, 2, 1);
        areRows(6, 12, 1, 2);
        areRows(12, 1);
        areRows(1, 1, 1);
        areRows(1, 0, 2);
        areRows(12, 12, 1);
        areRows(12, 4, 9);
        areRows(9, 1, 9);
        areRows(8, 0, 9);
        areRows(12, 7, 1, 1, 1, 1, 1, 1);
        areRows(12, 0, 9, 9, 9, 9, 9, 9);
        areRows(11, 1, 1, 1, 1, 1, 1, 1);
        areRows(10, 0, 1, 1, 1, 1, 1, 1);
        BoxballHall hall = typed(1);
        for (int boxes : NO_BOXES) {
            Check.thrown("countRows of " + boxes, Check.ARGUMENT, () -> hall.countRows(boxes));
        }
    }

    /** Each row has some sizes: those of all choices of sizes are all rows there are. */
    private static void countAllRows() {
        int rows = 0;
        int[] sizes = new int[6];
        int choices = 0;
        for (int code = 0; code < 9 * 9 * 9 * 9 * 9; code++) {
            boolean isFalling = true;
            int left = code;
            for (int i = 0; i < 5; i++) {
                sizes[i] = left % 9;
                left /= 9;
                isFalling &= i == 0 || sizes[i] <= sizes[i - 1];
            }
            if (isFalling) {
                choices++;
                rows += typed(java.util.Arrays.stream(sizes).filter(size -> size > 0).toArray()).countRows(8);
            }
        }
        Check.due("choices of sizes", 1287, choices);
        Check.due("rows of 8 boxes", 256, rows);
    }

    private static void makeRow() {
        BoxballHall hall = typed(1, 1);
        Check.due("the first one", 5, hall.makeRow(4, 0));
        Check.due("the first one", Halls.checksum("1111", "0101", 0), hall.checksum());
        Check.due("the second one", 9, hall.makeRow(4, 1));
        Check.due("the second one", "1001", Halls.balls(hall));
        Check.due("the last one", 10, hall.makeRow(4, 2));
        Check.due("the last one", "1010", Halls.balls(hall));
        Check.due("what is typed stays", 2, hall.wipe());
        Check.due("the empty row", 0, hall.makeRow(12, 0));
        Check.due("the empty row", "000000000000", Halls.balls(hall));
        BoxballHall two = typed(2, 1);
        Check.due("of 6, the first one", 11, two.makeRow(6, 0));
        Check.due("of 6, the fourth one", 22, two.makeRow(6, 3));
        Check.due("its sizes", 2, two.getSize(0));
        Check.due("its sizes", 1, two.getSize(1));
        int last = -1;
        for (int index = 0; index < two.countRows(9); index++) {
            int number = two.makeRow(9, index);
            Check.due("rising numbers", true, number > last);
            Check.due("the number of the row", Halls.balls(two), binary(9, number));
            last = number;
        }
    }

    private static String binary(int boxes, int number) {
        String digits = Integer.toBinaryString(number);
        return "0".repeat(boxes - digits.length()) + digits;
    }

    private static void makeRowTellsAnewRow() {
        BoxballHall hall = Halls.row("2222", "1000", true);
        hall.step(9);
        hall.makeRow(7, 0);
        Check.due("none is kept", 0, hall.countKept());
        Check.due("a simple line", 0, hall.countWaves());
        Check.due("of so many boxes", 7, hall.setRow(1, 1, false));
        Check.due("one box", 0, hall.makeRow(1, 0));
        Check.due("one box", 1, Halls.countBoxes(hall));
        Check.due("one box with a ball", 1, typed(1).makeRow(1, 0));
    }

    private static void makeRowWrong() {
        BoxballHall hall = typed(1, 1);
        hall.setBalls(0, 1);
        hall.step(9);
        long sum = hall.checksum();
        for (int boxes : NO_BOXES) {
            Check.thrown("makeRow of " + boxes, Check.ARGUMENT, () -> hall.makeRow(boxes, 0));
            Check.thrown("makeRow of " + boxes + ", none too", Check.ARGUMENT, () -> hall.makeRow(boxes, 9999));
        }
        for (int index : new int[] {3, 99, MAX}) {
            Check.thrown("makeRow 4, " + index, Check.NONE, () -> hall.makeRow(4, index));
        }
        Check.thrown("none at all", Check.NONE, () -> hall.makeRow(2, 0));
        for (int index : new int[] {-1, MIN}) {
            Check.thrown("makeRow 4, " + index, Check.NONE, () -> hall.makeRow(4, index));
        }
        Check.due("it changes nothing", sum, hall.checksum());
    }

    /** A step on rings that are not too full can be run backward: no two rows lead to the same one. */
    private static void countImages() {
        BoxballHall hall = Halls.line("1100100000");
        long sum = hall.checksum();
        Check.due("images of 9, 3", 84, hall.countImages(9, 3));
        Check.due("images of 1, 0", 1, hall.countImages(1, 0));
        Check.due("images of 12, 0", 1, hall.countImages(12, 0));
        Check.due("images of 12, 5", 792, hall.countImages(12, 5));
        Check.due("images of 3, 1", 3, hall.countImages(3, 1));
        for (int boxes = 1; boxes <= 12; boxes++) {
            int choose = 1;
            for (int balls = 0; 2 * balls < boxes; balls++) {
                Check.due("images of " + boxes + ", " + balls, choose, hall.countImages(boxes, balls));
                choose = choose * (boxes - balls) / (balls + 1);
            }
        }
        Check.due("it is in thought", sum, hall.checksum());
    }

    private static void countImagesWrong() {
        BoxballHall hall = new BoxballHall();
        for (int boxes : NO_BOXES) {
            Check.thrown("images of " + boxes, Check.ARGUMENT, () -> hall.countImages(boxes, 3));
        }
        for (int balls : new int[] {-1, 13, MIN, MAX}) {
            Check.thrown("images of 9, " + balls, Check.ARGUMENT, () -> hall.countImages(9, balls));
        }
        Check.thrown("half of 8", Check.REFUSED, () -> hall.countImages(8, 4));
        Check.thrown("half of 12", Check.REFUSED, () -> hall.countImages(12, 6));
        Check.thrown("more than half of 7", Check.REFUSED, () -> hall.countImages(7, 4));
        Check.thrown("more than there are boxes", Check.REFUSED, () -> hall.countImages(1, 12));
        Check.thrown("one of one", Check.REFUSED, () -> hall.countImages(1, 1));
    }
}
