import java.util.Set;
import java.util.TreeSet;

/** Promises 29 to 31: small laws. */
public final class LawsTest {
    private static final int MIN = Integer.MIN_VALUE;
    private static final int MAX = Integer.MAX_VALUE;
    private static final int[] NO_LAW = {-1, 256, MIN, MAX};

    public static void main(String[] args) {
        obeys();
        keepsNumbers();
        wrongLaws();
        move();
        moveOnShortRings();
        moveKeepsNoRows();
        moveWrong();
        Check.end("LawsTest");
    }

    private static void obeys() {
        BoxballHall hall = new BoxballHall();
        for (int neighbours = 0; neighbours < 8; neighbours++) {
            boolean isOf184 = neighbours == 3 || neighbours == 4 || neighbours == 5 || neighbours == 7;
            Check.due("184 and " + neighbours, isOf184, hall.obeys(184, neighbours));
            Check.due("0 and " + neighbours, false, hall.obeys(0, neighbours));
            Check.due("255 and " + neighbours, true, hall.obeys(255, neighbours));
            Check.due("1 and " + neighbours, neighbours == 0, hall.obeys(1, neighbours));
            Check.due("128 and " + neighbours, neighbours == 7, hall.obeys(128, neighbours));
        }
    }

    /** The five that are known: nothing moves, all move to either side, and traffic to either side. */
    private static void keepsNumbers() {
        BoxballHall hall = new BoxballHall();
        Set<Integer> keeping = new TreeSet<>();
        for (int law = 0; law <= 255; law++) {
            if (hall.keepsNumbers(law)) {
                keeping.add(law);
            }
        }
        Check.due("laws that keep numbers", "[170, 184, 204, 226, 240]", keeping.toString());
    }

    private static void wrongLaws() {
        BoxballHall hall = Halls.ring("110");
        for (int law : NO_LAW) {
            Check.thrown("obeys " + law, Check.ARGUMENT, () -> hall.obeys(law, 0));
            Check.thrown("keepsNumbers " + law, Check.ARGUMENT, () -> hall.keepsNumbers(law));
        }
        for (int neighbours : new int[] {-1, 8, MIN, MAX}) {
            Check.thrown("obeys 184, " + neighbours, Check.ARGUMENT, () -> hall.obeys(184, neighbours));
        }
    }

    private static void isMoved(String ring, int law, String behind) {
        BoxballHall hall = Halls.ring(ring);
        int balls = (int) behind.chars().filter(sign -> sign == '1').count();
        Check.due("balls of " + ring + " by " + law, balls, hall.move(law));
        Check.due(ring + " by " + law, behind, Halls.balls(hall));
    }

    private static void move() {
        isMoved("110100", 184, "101010");
        isMoved("000001", 184, "100000");
        isMoved("110100", 240, "011010");
        isMoved("110100", 170, "101001");
        isMoved("110100", 204, "110100");
        isMoved("110100", 90, "110011");
        isMoved("110100", 0, "000000");
        isMoved("110100", 255, "111111");
        isMoved("110100", 1, "000000");
        isMoved("10000", 1, "00110");
        isMoved("0".repeat(59) + "1", 240, "1" + "0".repeat(59));
    }

    private static void moveOnShortRings() {
        isMoved("1", 128, "1");
        isMoved("1", 127, "0");
        isMoved("0", 1, "1");
        isMoved("0", 254, "0");
        // A ring of 2: the other box is to the left, and to the right too.
        isMoved("10", 1 << 2, "10");
        isMoved("10", 1 << 4, "00");
        isMoved("10", 1 << 1, "00");
        isMoved("10", 1 << 5, "01");
        isMoved("01", 1 << 5, "10");
        isMoved("01", 1 << 2, "01");
        isMoved("11", 1 << 7, "11");
        isMoved("101", 1 << 6, "100");
        isMoved("101", 1 << 3, "001");
    }

    private static void moveKeepsNoRows() {
        BoxballHall hall = Halls.ring("1100000");
        hall.step(9);
        hall.move(240);
        Check.due("a law takes no row away, and keeps none", 1, hall.countKept());
        Check.due("the row ahead of the step", "1100000", Halls.past(hall, 1));
        hall.undo();
        Check.due("back ahead of the step", "1100000", Halls.balls(hall));
    }

    private static void moveWrong() {
        BoxballHall[] noSimpleRings = {Halls.line("110"), Halls.row("1112", "1100", true), Halls.row("2", "0", false)};
        for (BoxballHall hall : noSimpleRings) {
            long sum = hall.checksum();
            Check.thrown("no simple ring", Check.REFUSED, () -> hall.move(184));
            for (int law : NO_LAW) {
                Check.thrown("no law, and no simple ring", Check.ARGUMENT, () -> hall.move(law));
            }
            Check.due("it changes nothing", sum, hall.checksum());
        }
        BoxballHall ring = Halls.ring("110");
        for (int law : NO_LAW) {
            Check.thrown("move by " + law, Check.ARGUMENT, () -> ring.move(law));
        }
        Check.due("it changes nothing", "110", Halls.balls(ring));
    }
}
