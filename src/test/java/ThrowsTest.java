import java.util.ArrayList;
import java.util.List;

/** A method that throws changes nothing: two halls are told alike, one of them is called wrongly in between. */
public final class ThrowsTest {
    private static final int[][] CAPACITIES_AND_RINGS = {{1, 0}, {1, 1}, {3, 0}, {3, 1}};

    public static void main(String[] args) {
        for (int[] kind : CAPACITIES_AND_RINGS) {
            lookAt(kind[0], kind[1] == 1, true);
            lookAt(kind[0], kind[1] == 1, false);
        }
        Check.end("ThrowsTest");
    }

    private static BoxballHall told(int capacity, boolean isRing, boolean isFilled) {
        BoxballHall hall = new BoxballHall();
        hall.setRow(20, capacity, isRing);
        hall.setBalls(0, 1);
        hall.setBalls(1, 1);
        hall.setBalls(4, 1);
        if (isFilled) {
            fill(hall);
            hall.step(9);
            hall.step(2);
            hall.setCapacity(3, 2);
            hall.setCapacity(3, capacity);
        }
        hall.setBalls(isRing ? 10 : 19, 1);
        if (isRing) {
            tooFull(hall, capacity);
        }
        return hall;
    }

    private static void fill(BoxballHall hall) {
        for (int wave = 1; wave <= 5; wave++) {
            hall.addWave(wave, 7 * wave);
        }
        for (int size = 1; size <= 6; size++) {
            hall.type(size % 2 + 1);
        }
        for (int i = 0; i < 48; i++) {
            hall.setTime(i % 8, i / 8, i);
        }
    }

    private static void tooFull(BoxballHall hall, int capacity) {
        for (int box = 0; box < 15; box++) {
            hall.setBalls(box, capacity);
        }
    }

    private static void lookAt(int capacity, boolean isRing, boolean isFilled) {
        List<Check.Call> calls = new ArrayList<>();
        BoxballHall wronged = told(capacity, isRing, isFilled);
        rowCalls(calls, wronged);
        keptCalls(calls, wronged);
        otherCalls(calls, wronged);
        callsOfAState(calls, wronged, isRing || capacity > 1, isFilled);
        if (!isRing || capacity > 1) {
            calls.add(() -> wronged.move(184));
        }
        String due = Halls.all(told(capacity, isRing, isFilled));
        int thrown = 0;
        for (Check.Call call : calls) {
            thrown += Check.outcome(call).startsWith("throws") ? 1 : 0;
        }
        Check.due("all calls throw, ring " + isRing + ", filled " + isFilled, calls.size(), thrown);
        Check.due("nothing is changed, ring " + isRing + ", filled " + isFilled, due, Halls.all(wronged));
    }

    private static void rowCalls(List<Check.Call> calls, BoxballHall hall) {
        calls.add(() -> hall.setRow(61, 1, true));
        calls.add(() -> hall.setRow(9, 5, true));
        calls.add(() -> hall.setCapacity(20, 1));
        calls.add(() -> hall.setCapacity(0, 0));
        calls.add(() -> hall.setBalls(-1, 0));
        calls.add(() -> hall.setBalls(0, 5));
        calls.add(() -> hall.getBalls(20));
        calls.add(() -> hall.step(0));
        calls.add(() -> hall.step(99));
        calls.add(() -> hall.stepBack(100));
        calls.add(() -> hall.run(0, 1));
        calls.add(() -> hall.run(1, 0));
        calls.add(() -> hall.getPast(9, 0));
        calls.add(() -> hall.getPast(0, 99));
        calls.add(() -> hall.commute(99, 99));
        calls.add(() -> hall.commute(0, 1));
        calls.add(() -> hall.getPeriod(99));
        calls.add(() -> hall.getPeriod(100));
    }

    private static void keptCalls(List<Check.Call> calls, BoxballHall hall) {
        calls.add(() -> hall.countPairs(0));
        calls.add(() -> hall.getSize(-1));
        calls.add(() -> hall.getEnergy(0));
        calls.add(() -> hall.countRuns(100));
        calls.add(() -> hall.getRun(9, 99));
        calls.add(() -> hall.getPlace(9, -1));
    }

    private static void otherCalls(List<Check.Call> calls, BoxballHall hall) {
        calls.add(() -> hall.exchange(0, 0, 1, 0, true));
        calls.add(() -> hall.turnRound(110, 110, true));
        calls.add(() -> hall.addWave(0, 0));
        calls.add(() -> hall.addWave(1, 61));
        calls.add(() -> hall.getHeight(1000, 0));
        calls.add(() -> hall.getChosen(0, 100));
        calls.add(() -> hall.takeChosen(-100));
        calls.add(() -> hall.obeys(256, 0));
        calls.add(() -> hall.keepsNumbers(-1));
        calls.add(() -> hall.move(256));
        calls.add(() -> hall.type(10));
        calls.add(() -> hall.countRows(13));
        calls.add(() -> hall.makeRow(0, 0));
        calls.add(() -> hall.makeRow(12, 4096));
        calls.add(() -> hall.countImages(13, 0));
        calls.add(() -> hall.countImages(4, 2));
        calls.add(() -> hall.setTime(8, 0, 1));
        calls.add(() -> hall.setTime(0, 0, 100));
        calls.add(() -> hall.getLeaving(0, 6));
    }

    /** What is refused in some states alone. */
    private static void callsOfAState(List<Check.Call> calls, BoxballHall hall, boolean isNoSimpleLine, boolean isFilled) {
        if (isFilled) {
            calls.add(() -> hall.addWave(1, 1));
            calls.add(() -> hall.type(1));
        } else {
            calls.add(hall::undo);
            calls.add(() -> hall.getPast(1, 0));
        }
        if (isNoSimpleLine) {
            calls.add(() -> hall.countPairs(1));
            calls.add(hall::countWaves);
            calls.add(() -> hall.getSize(0));
            calls.add(() -> hall.getEnergy(1));
            calls.add(() -> hall.countRuns(1));
            calls.add(() -> hall.getRun(1, 0));
            calls.add(() -> hall.getPlace(1, 0));
            calls.add(hall::getMeanSize);
        }
    }
}
