import java.math.BigInteger;

/** Promises 39 to 42: what is told of the whole row. */
final class SumEdges {
    private static final String SIXTY = "1".repeat(60);

    private SumEdges() {
    }

    static void all() {
        Edges.in("Promise 39");
        getFilledBits();
        Edges.in("Promise 40");
        getMeanSize();
        Edges.in("Promise 41");
        checksum();
        Edges.in("Promise 42");
        isSound();
    }

    private static void getFilledBits() {
        Edges.edge("Returns the share of boxes with balls", () -> {
            Check.due("a box with one", 0x3F000000, Halls.row("44", "10", false).getFilledBits());
            Check.due("a box with four counts once", 0x3F000000, Halls.row("44", "40", true).getFilledBits());
            Check.due("balls are not counted", 0x3E800000, Halls.row("4444", "0400", true).getFilledBits());
        });
        Edges.edge("Returns their number divided by that of all, both converted to float, as its bits", () -> {
            for (int boxes = 1; boxes <= 60; boxes++) {
                BoxballHall hall = new BoxballHall();
                hall.setRow(boxes, 1, false);
                for (int filled = 0; filled <= boxes; filled++) {
                    int due = Float.floatToIntBits((float) filled / (float) boxes);
                    Check.due(filled + " of " + boxes, due, hall.getFilledBits());
                    Check.outcome(() -> hall.setBalls(hall.countBalls(), 1));
                }
            }
            Check.due("none", 0, Halls.line("0").getFilledBits());
            Check.due("all", 0x3F800000, Halls.line(SIXTY).getFilledBits());
            Check.due("the least share", 0x3C888889, Halls.line("1" + "0".repeat(59)).getFilledBits());
            Check.due("a third", 0x3EAAAAAB, Halls.line("010").getFilledBits());
        });
    }

    private static void getMeanSize() {
        Edges.edge("Returns the mean size of waves", () -> {
            Check.due("one wave", 2.0, Halls.line("1100").getMeanSize());
            Check.due("two waves", 1.5, Halls.line("110010").getMeanSize());
        });
        Edges.edge("Returns the sum divided by how many there are, both converted to double", () -> {
            Check.due("of 4 and 3", 4.0 / 3.0, Halls.line("1101001000").getMeanSize());
            Check.due("of 5 and 3", 5.0 / 3.0, Halls.line("11011000100").getMeanSize());
            Check.due("the greatest one there is", 60.0, Halls.line(SIXTY).getMeanSize());
            Check.due("the least one there is", 1.0, Halls.line("01".repeat(30)).getMeanSize());
        });
        Edges.edge("Throws `UnsupportedOperationException` if the row is no simple line", () -> {
            Check.refused("a ring", Check.REFUSED, () -> Halls.full("111", "100", true), BoxballHall::getMeanSize);
            Check.refused("a last box of 2", Check.REFUSED, () -> Halls.full("112", "100", false), BoxballHall::getMeanSize);
            Check.refused("a first box of 2", Check.REFUSED, () -> Halls.full("211", "100", false), BoxballHall::getMeanSize);
        });
        Edges.edge("Throws `ArithmeticException` if there are none", () -> {
            Check.refused("one empty box", Check.ARITHMETIC, () -> Halls.full("1", "0", false), BoxballHall::getMeanSize);
            Check.refused("60 of them", Check.ARITHMETIC, () -> Halls.full(SIXTY, "0".repeat(60), false), BoxballHall::getMeanSize);
        });
    }

    private static void checksum() {
        Edges.edge("Returns a sum over the row", () -> {
            Check.due("at first", -8526129900043552605L, new BoxballHall().checksum());
            Check.due("of a line and of a ring alike", Halls.line("10").checksum(), Halls.ring("10").checksum());
            Check.due("but not of rows that are unlike", false, Halls.line("10").checksum() == Halls.line("01").checksum());
        });
        Edges.edge("7 at first, then for each box 31 times itself plus its capacity, then 31 times itself plus its balls", () -> {
            Check.due("one box", ((7 * 31 + 4) * 31 + 3) * 31, Halls.row("4", "3", false).checksum());
            Check.due("two boxes", ((((7 * 31 + 4) * 31 + 3) * 31 + 2) * 31 + 1) * 31, Halls.row("42", "31", true).checksum());
            for (int boxes : new int[] {1, 2, 5, 6, 7, 13, 59, 60}) {
                String capacities = "4231".repeat(15).substring(0, boxes);
                String balls = "4130".repeat(15).substring(0, boxes).replace('3', '2');
                Check.due("around the end of a long", around(capacities, balls, 0), Halls.row(capacities, balls, true).checksum());
            }
        });
        Edges.edge("then 31 times itself plus how many rows are kept", () -> {
            BoxballHall hall = Halls.ring("1000");
            for (int steps = 0; steps <= 9; steps++) {
                Check.due("behind " + steps, around("1111", Halls.balls(hall), Math.min(steps, 8)), hall.checksum());
                hall.step(1);
            }
        });
    }

    /** The sum without an end, and of that the lowest 64 bits. */
    private static long around(String capacities, String balls, int kept) {
        BigInteger factor = BigInteger.valueOf(31);
        BigInteger sum = BigInteger.valueOf(7);
        for (int box = 0; box < balls.length(); box++) {
            sum = sum.multiply(factor).add(BigInteger.valueOf(capacities.charAt(box) - '0'));
            sum = sum.multiply(factor).add(BigInteger.valueOf(balls.charAt(box) - '0'));
        }
        return sum.multiply(factor).add(BigInteger.valueOf(kept)).longValue();
    }

    private static void isSound(String capacities, String balls, boolean isRing) {
        BoxballHall hall = Halls.full(capacities, balls, isRing);
        Check.due("sound: " + balls + " in " + capacities, true, hall.isSound());
        Check.due("in thought", Halls.all(Halls.full(capacities, balls, isRing)), Halls.all(hall));
    }

    private static void isSound() {
        Edges.edge("on a line, a step of the capacity 3 that is not refused and a step backward give the row", () -> {
            isSound("11111111", "11110000", false);
            isSound("44444444", "42310000", false);
            isSound("44444444", "00000004", false);
            isSound("4", "4", false);
            isSound("44", "44", true);
            isSound("3", "1", true);
        });
        Edges.edge("on a simple line energies are sums of sizes, none counted with more than the capacity", () -> {
            isSound("1", "0", false);
            isSound("1", "1", false);
            isSound(SIXTY, SIXTY, false);
            isSound(SIXTY, "10".repeat(30), false);
            isSound(SIXTY, "1110010".repeat(8) + "1101", false);
        });
        Edges.edge("runs of 90 steps in thought are as long as the waves, the greatest one last", () -> {
            // The greater wave has to pass the smaller one, which is as far ahead as can be.
            for (int size = 2; size <= 20; size++) {
                String left = "1".repeat(size) + "0".repeat(60 - 2 * size + 1) + "1".repeat(size - 1);
                isSound(SIXTY, left, false);
            }
            isSound(SIXTY, "1".repeat(10) + "0".repeat(20) + "10".repeat(15), false);
        });
        Edges.edge("Returns whether it is so", () -> {
            isSound("1111", "1100", true);
            isSound("1221", "1021", false);
            Check.due("a new one", true, new BoxballHall().isSound());
        });
        Edges.edge("and leavings are the longest ways", () -> {
            BoxballHall hall = new BoxballHall();
            Check.due("no times", true, hall.isSound());
            for (int i = 0; i < 48; i++) {
                hall.setTime(i % 8, i / 8, i * 53 % 100);
                Check.due("one time more", true, hall.isSound());
            }
        });
    }
}
