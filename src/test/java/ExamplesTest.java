/** The examples at the end of "Terms", each on a new object. */
public final class ExamplesTest {
    public static void main(String[] args) {
        stepAndStepBack();
        ring();
        chosenRow();
        threePieces();
        rowsAndLaws();
        Check.end("ExamplesTest");
    }

    private static void stepAndStepBack() {
        BoxballHall hall = new BoxballHall();
        Check.due("setBalls(0, 1)", 0, hall.setBalls(0, 1));
        Check.due("setBalls(1, 1)", 0, hall.setBalls(1, 1));
        Check.due("setBalls(4, 1)", 0, hall.setBalls(4, 1));
        Check.due("countWaves()", 2, hall.countWaves());
        Check.due("getSize(0)", 2, hall.getSize(0));
        Check.due("getSize(1)", 1, hall.getSize(1));
        Check.due("step(9)", 2, hall.step(9));
        Check.due("getBalls(2)", 1, hall.getBalls(2));
        Check.due("getBalls(3)", 1, hall.getBalls(3));
        Check.due("getBalls(5)", 1, hall.getBalls(5));
        Check.due("stepBack(9)", 2, hall.stepBack(9));
        Check.due("getBalls(0)", 1, hall.getBalls(0));
    }

    private static void ring() {
        BoxballHall hall = new BoxballHall();
        Check.due("setRow(5, 1, true)", 10, hall.setRow(5, 1, true));
        Check.due("setBalls(0, 1)", 0, hall.setBalls(0, 1));
        Check.due("setBalls(1, 1)", 0, hall.setBalls(1, 1));
        Check.due("getPeriod(9)", 5, hall.getPeriod(9));
        Check.due("step(9)", 2, hall.step(9));
        Check.due("getBalls(2)", 1, hall.getBalls(2));
        Check.due("setBalls(0, 1)", 0, hall.setBalls(0, 1));
        Check.thrown("step(9)", Check.REFUSED, () -> hall.step(9));
    }

    private static void chosenRow() {
        BoxballHall hall = new BoxballHall();
        Check.due("addWave(2, 2)", 1, hall.addWave(2, 2));
        Check.due("addWave(1, 6)", 2, hall.addWave(1, 6));
        Check.due("getChosen(2, 0)", 0, hall.getChosen(2, 0));
        Check.due("getChosen(3, 0)", 0, hall.getChosen(3, 0));
        Check.due("getChosen(5, 0)", 0, hall.getChosen(5, 0));
        Check.due("getChosen(6, 0)", 1, hall.getChosen(6, 0));
    }

    private static void threePieces() {
        BoxballHall hall = new BoxballHall();
        Check.due("turnRound(321, 210, true)", 21, hall.turnRound(321, 210, true));
        Check.due("turnRound(321, 210, false)", 21, hall.turnRound(321, 210, false));
        Check.due("exchange(3, 2, 2, 1, true)", 1, hall.exchange(3, 2, 2, 1, true));
        Check.due("exchange(3, 2, 2, 1, false)", 2, hall.exchange(3, 2, 2, 1, false));
    }

    private static void rowsAndLaws() {
        BoxballHall hall = new BoxballHall();
        Check.due("type(1)", 1, hall.type(1));
        Check.due("type(1)", 2, hall.type(1));
        Check.due("countRows(4)", 3, hall.countRows(4));
        Check.due("makeRow(4, 0)", 5, hall.makeRow(4, 0));
        Check.due("countWaves()", 2, hall.countWaves());
        Check.due("keepsNumbers(184)", true, hall.keepsNumbers(184));
        Check.due("keepsNumbers(90)", false, hall.keepsNumbers(90));
    }
}
