/** Promises 39 to 42: what is told of the whole row. */
public final class SumsTest {
    public static void main(String[] args) {
        getFilledBits();
        getMeanSize();
        checksum();
        isSound();
        Check.end("SumsTest");
    }

    private static void getFilledBits() {
        for (int boxes = 1; boxes <= 60; boxes++) {
            BoxballHall hall = new BoxballHall();
            hall.setRow(boxes, 3, true);
            for (int filled = 0; filled <= boxes; filled++) {
                int due = Float.floatToIntBits((float) filled / (float) boxes);
                Check.due("bits of " + filled + " of " + boxes, due, hall.getFilledBits());
                if (filled < boxes) {
                    hall.setBalls(filled, 1 + filled % 3);
                }
            }
        }
        Check.due("a quarter", 0x3E800000, Halls.line("1000").getFilledBits());
        Check.due("all", 0x3F800000, Halls.row("44", "41", false).getFilledBits());
        Check.due("none", 0, Halls.line("0").getFilledBits());
    }

    private static void getMeanSize() {
        Check.due("a mean size", 5.0 / 3.0, Halls.line("11011000100000000000").getMeanSize());
        Check.due("a mean size", 1.5, Halls.line("1100100000").getMeanSize());
        Check.due("of 60", 60.0, Halls.line("1".repeat(60)).getMeanSize());
        Check.due("of 1", 1.0, Halls.line("10".repeat(30)).getMeanSize());
        Check.thrown("of none", Check.ARITHMETIC, () -> Halls.line("00").getMeanSize());
        Check.thrown("of a ring", Check.REFUSED, () -> Halls.ring("110").getMeanSize());
        Check.thrown("of an empty ring", Check.REFUSED, () -> Halls.ring("000").getMeanSize());
        Check.thrown("of no simple line", Check.REFUSED, () -> Halls.row("12", "00", false).getMeanSize());
    }

    private static void checksum() {
        BoxballHall hall = new BoxballHall();
        Check.due("at first", -8526129900043552605L, hall.checksum());
        Halls.tell(hall, "1234", "1000", false);
        Check.due("of boxes and balls", Halls.checksum("1234", "1000", 0), hall.checksum());
        hall.step(9);
        Check.due("of kept rows", Halls.checksum("1234", "0100", 1), hall.checksum());
        Halls.tell(hall, "4", "4", true);
        Check.due("by hand", ((7 * 31 + 4) * 31 + 4) * 31, hall.checksum());
        String longest = "4123".repeat(15);
        Check.due("of 60 boxes", Halls.checksum(longest, longest, 0), Halls.row(longest, longest, true).checksum());
    }

    private static void isSound() {
        String[] lines = {"0", "1", "1100100000", "1".repeat(60), "10".repeat(30), "11".repeat(29) + "01",
            "1110010" + "0".repeat(52) + "1", "0".repeat(59) + "1"};
        for (String line : lines) {
            BoxballHall hall = Halls.line(line);
            long sum = hall.checksum();
            Check.due("sound " + line, true, hall.isSound());
            Check.due("it is in thought", sum, hall.checksum());
        }
        Check.due("a line of mixed boxes", true, Halls.row("4321432143", "4021000000", false).isSound());
        Check.due("a line whose step is refused", true, Halls.row("4321", "4321", false).isSound());
        Check.due("a ring", true, Halls.ring("1100100").isSound());
        Check.due("a full ring", true, Halls.row("44", "44", true).isSound());
        BoxballHall queue = new BoxballHall();
        for (int i = 0; i < 48; i++) {
            queue.setTime(i % 8, i / 8, i * 37 % 100);
        }
        Check.due("with times", true, queue.isSound());
    }
}
