import java.util.ArrayList;
import java.util.Arrays;
import java.util.HashSet;
import java.util.List;
import java.util.NoSuchElementException;
import java.util.Set;
import java.util.TreeMap;

/**
 * The document said a second time, by other ways wherever there are some: texts for simple lines,
 * choices and longest ways by trying all of them, lists that are copied. Slow, and only for tests.
 */
public final class PlainHall {
    private record Boxes(List<Integer> capacities, List<Integer> balls, boolean isRing) {
        Boxes with(List<Integer> others) {
            return new Boxes(capacities, List.copyOf(others), isRing);
        }

        boolean isSimple() {
            return capacities.stream().allMatch(capacity -> capacity == 1);
        }

        int size() {
            return balls.size();
        }

        int sum() {
            return balls.stream().mapToInt(Integer::intValue).sum();
        }

        String text() {
            StringBuilder text = new StringBuilder();
            balls.forEach(text::append);
            return text.toString();
        }
    }

    private record Passed(List<Integer> balls, int last, int most) {
    }

    private Boxes row = empty(10, 1, false);
    private final List<Boxes> kept = new ArrayList<>();
    private final List<int[]> waves = new ArrayList<>();
    private final List<Integer> sizes = new ArrayList<>();
    private final int[][] times = new int[8][6];

    private static Boxes empty(int boxes, int capacity, boolean isRing) {
        Integer[] capacities = new Integer[boxes];
        Integer[] balls = new Integer[boxes];
        Arrays.fill(capacities, capacity);
        Arrays.fill(balls, 0);
        return new Boxes(List.of(capacities), List.of(balls), isRing);
    }

    private static Boxes simple(String text, boolean isRing) {
        List<Integer> balls = new ArrayList<>();
        for (char sign : text.toCharArray()) {
            balls.add(sign - '0');
        }
        return empty(text.length(), 1, isRing).with(balls);
    }

    private static String binary(int boxes, int number) {
        String digits = Integer.toBinaryString(number);
        return "0".repeat(boxes - digits.length()) + digits;
    }

    private static void argument(boolean isGood) {
        if (!isGood) {
            throw new IllegalArgumentException();
        }
    }

    private static boolean isIn(int least, int number, int most) {
        return least <= number && number <= most;
    }

    private void box(int box) {
        if (!isIn(0, box, row.size() - 1)) {
            throw new IndexOutOfBoundsException();
        }
    }

    private void simpleLine() {
        if (row.isRing || !row.isSimple()) {
            throw new UnsupportedOperationException();
        }
    }

    // ---- rows and steps

    public int setRow(int boxes, int capacity, boolean isRing) {
        argument(isIn(1, boxes, 60) && isIn(1, capacity, 4));
        int before = row.size();
        row = empty(boxes, capacity, isRing);
        kept.clear();
        return before;
    }

    public int setCapacity(int box, int capacity) {
        box(box);
        argument(isIn(1, capacity, 4));
        List<Integer> capacities = new ArrayList<>(row.capacities);
        List<Integer> balls = new ArrayList<>(row.balls);
        int before = capacities.set(box, capacity);
        balls.set(box, Math.min(capacity, balls.get(box)));
        row = new Boxes(List.copyOf(capacities), List.copyOf(balls), row.isRing);
        return before;
    }

    public int setBalls(int box, int balls) {
        box(box);
        argument(isIn(0, balls, row.capacities.get(box)));
        List<Integer> changed = new ArrayList<>(row.balls);
        int before = changed.set(box, balls);
        row = row.with(changed);
        return before;
    }

    public int getBalls(int box) {
        box(box);
        return row.balls.get(box);
    }

    public int countBalls() {
        return row.sum();
    }

    /** The carrier lays down what the box has room for, and picks up what it had room for itself. */
    private static Passed pass(Boxes boxes, int limit, int load, boolean isForward) {
        List<Integer> balls = new ArrayList<>(boxes.balls);
        int most = load;
        for (int i = 0; i < boxes.size(); i++) {
            int box = isForward ? i : boxes.size() - 1 - i;
            int down = Math.min(load, boxes.capacities.get(box) - boxes.balls.get(box));
            int up = Math.min(boxes.balls.get(box), limit - load);
            balls.set(box, boxes.balls.get(box) + down - up);
            load += up - down;
            most = Math.max(most, load);
        }
        return new Passed(balls, load, most);
    }

    private static Passed stepped(Boxes boxes, int limit, boolean isForward) {
        int begin = boxes.isRing ? pass(boxes, limit, 0, isForward).last : 0;
        Passed passed = pass(boxes, limit, begin, isForward);
        if (passed.last != begin) {
            throw new UnsupportedOperationException();
        }
        return passed;
    }

    private int stepAndKeep(int capacity, boolean isForward) {
        Passed passed = stepped(row, capacity, isForward);
        kept.add(0, row);
        if (kept.size() > 8) {
            kept.remove(8);
        }
        row = row.with(passed.balls);
        return passed.most;
    }

    public int step(int capacity) {
        argument(isIn(1, capacity, 99));
        return stepAndKeep(capacity, true);
    }

    public int stepBack(int capacity) {
        argument(isIn(1, capacity, 99));
        return stepAndKeep(capacity, false);
    }

    public int run(int steps, int capacity) {
        argument(isIn(1, steps, 99) && isIn(1, capacity, 99));
        for (int made = 0; made < steps; made++) {
            try {
                stepAndKeep(capacity, true);
            } catch (UnsupportedOperationException e) {
                return made;
            }
        }
        return steps;
    }

    public int countKept() {
        return kept.size();
    }

    public int getPast(int steps, int box) {
        if (!isIn(1, steps, kept.size())) {
            throw new NoSuchElementException();
        }
        box(box);
        return kept.get(steps - 1).balls.get(box);
    }

    public int undo() {
        if (kept.isEmpty()) {
            throw new NoSuchElementException();
        }
        row = kept.remove(0);
        return kept.size();
    }

    private static Boxes after(Boxes boxes, int capacity) {
        return boxes.with(stepped(boxes, capacity, true).balls);
    }

    public boolean commute(int one, int other) {
        argument(isIn(1, one, 99) && isIn(1, other, 99));
        return after(after(row, one), other).equals(after(after(row, other), one));
    }

    public int getPeriod(int capacity) {
        argument(isIn(1, capacity, 99));
        if (!row.isRing) {
            throw new UnsupportedOperationException();
        }
        Boxes moved = row;
        for (int steps = 1; steps <= 5000; steps++) {
            moved = after(moved, capacity);
            if (moved.equals(row)) {
                return steps;
            }
        }
        throw new NoSuchElementException();
    }

    // ---- kept things

    private static List<Integer> pairsOf(String text) {
        String left = text + "0".repeat(100);
        List<Integer> pairs = new ArrayList<>();
        while (left.contains("1")) {
            String next = left.replace("10", "");
            pairs.add((left.length() - next.length()) / 2);
            left = next;
        }
        return pairs;
    }

    /** The sizes from the greatest on. */
    private static List<Integer> sizesOf(String text) {
        List<Integer> pairs = pairsOf(text);
        List<Integer> found = new ArrayList<>();
        for (int wave = 0; !pairs.isEmpty() && wave < pairs.get(0); wave++) {
            int j = wave;
            found.add((int) pairs.stream().filter(count -> count > j).count());
        }
        return found;
    }

    public int countPairs(int round) {
        argument(round >= 1);
        simpleLine();
        List<Integer> pairs = pairsOf(row.text());
        return round <= pairs.size() ? pairs.get(round - 1) : 0;
    }

    public int countWaves() {
        simpleLine();
        return sizesOf(row.text()).size();
    }

    public int getSize(int wave) {
        simpleLine();
        List<Integer> found = sizesOf(row.text());
        if (!isIn(0, wave, found.size() - 1)) {
            throw new NoSuchElementException();
        }
        return found.get(wave);
    }

    public int getEnergy(int capacity) {
        argument(isIn(1, capacity, 99));
        simpleLine();
        List<Integer> behind = pass(row, capacity, 0, true).balls;
        int energy = 0;
        for (int box = 0; box < row.size(); box++) {
            energy += row.balls.get(box) == 1 && behind.get(box) == 0 ? 1 : 0;
        }
        return energy;
    }

    /** The runs after steps, by their places: each ball goes to the next empty box, the leftmost one first. */
    private static TreeMap<Integer, Integer> runsOf(String text, int steps) {
        boolean[] boxes = new boolean[7000];
        for (int box = 0; box < text.length(); box++) {
            boxes[box] = text.charAt(box) == '1';
        }
        for (int made = 0; made < steps; made++) {
            boxes = afterStep(boxes);
        }
        TreeMap<Integer, Integer> runs = new TreeMap<>();
        int begin = 0;
        for (int box = 0; box < boxes.length; box++) {
            if (boxes[box]) {
                begin = box > 0 && boxes[box - 1] ? begin : box;
                runs.merge(begin, 1, Integer::sum);
            }
        }
        return runs;
    }

    private static boolean[] afterStep(boolean[] boxes) {
        boolean[] taken = boxes.clone();
        boolean[] next = new boolean[boxes.length];
        for (int ball = 0; ball < boxes.length; ball++) {
            if (boxes[ball]) {
                int to = ball;
                while (taken[to]) {
                    to++;
                }
                taken[to] = true;
                next[to] = true;
            }
        }
        return next;
    }

    private TreeMap<Integer, Integer> runs(int steps) {
        argument(isIn(0, steps, 99));
        simpleLine();
        return runsOf(row.text(), steps);
    }

    private static int placeOf(TreeMap<Integer, Integer> runs, int run) {
        if (!isIn(0, run, runs.size() - 1)) {
            throw new NoSuchElementException();
        }
        return new ArrayList<>(runs.keySet()).get(run);
    }

    public int countRuns(int steps) {
        return runs(steps).size();
    }

    public int getRun(int steps, int run) {
        TreeMap<Integer, Integer> runs = runs(steps);
        return runs.get(placeOf(runs, run));
    }

    public int getPlace(int steps, int run) {
        return placeOf(runs(steps), run);
    }

    // ---- exchanges and chosen waves

    public int exchange(int capacity, int balls, int other, int others, boolean isFirst) {
        argument(isIn(1, capacity, 9) && isIn(1, other, 9) && isIn(0, balls, capacity) && isIn(0, others, other));
        int[] pieces = exchanged(capacity, balls, other, others);
        return pieces[isFirst ? 0 : 1];
    }

    private static int[] exchanged(int capacity, int balls, int other, int others) {
        int down = Math.min(balls, other - others);
        int up = Math.min(others, capacity - balls);
        return new int[] {others + down - up, balls + up - down};
    }

    public int turnRound(int capacities, int balls, boolean isFirst) {
        argument(isIn(100, capacities, 999) && isIn(0, balls, 999));
        String rooms = String.valueOf(capacities);
        String loads = String.format("%03d", balls);
        for (int i = 0; i < 3; i++) {
            argument(rooms.charAt(i) != '0' && loads.charAt(i) <= rooms.charAt(i));
        }
        int[] room = rooms.chars().map(sign -> sign - '0').toArray();
        int[] load = loads.chars().map(sign -> sign - '0').toArray();
        for (int i : isFirst ? new int[] {0, 1, 0} : new int[] {1, 0, 1}) {
            int[] pieces = exchanged(room[i], load[i], room[i + 1], load[i + 1]);
            int carrier = room[i];
            room[i] = room[i + 1];
            room[i + 1] = carrier;
            load[i] = pieces[0];
            load[i + 1] = pieces[1];
        }
        return Integer.parseInt("" + load[0] + load[1] + load[2]);
    }

    public int addWave(int size, int phase) {
        argument(isIn(1, size, 9) && isIn(-60, phase, 60));
        if (waves.size() == 5) {
            throw new IllegalStateException();
        }
        waves.add(new int[] {size, phase});
        return waves.size();
    }

    public int clearWaves() {
        int before = waves.size();
        waves.clear();
        return before;
    }

    private static int greatest(List<int[]> left, List<int[]> taken, int place, int time) {
        if (left.isEmpty()) {
            int sum = 0;
            for (int i = 0; i < taken.size(); i++) {
                sum += taken.get(i)[0] * time + taken.get(i)[1] - place;
                for (int j = i + 1; j < taken.size(); j++) {
                    sum -= 2 * Math.min(taken.get(i)[0], taken.get(j)[0]);
                }
            }
            return sum;
        }
        List<int[]> others = left.subList(1, left.size());
        List<int[]> more = new ArrayList<>(taken);
        more.add(left.get(0));
        return Math.max(greatest(others, taken, place, time), greatest(others, more, place, time));
    }

    private int height(int place, int time) {
        return greatest(waves, List.of(), place, time);
    }

    private int chosen(int place, int time) {
        return height(place, time + 1) - height(place + 1, time + 1) - height(place, time) + height(place + 1, time);
    }

    public int getHeight(int place, int time) {
        argument(isIn(-999, place, 999) && isIn(-99, time, 99));
        return height(place, time);
    }

    public int getChosen(int place, int time) {
        argument(isIn(-999, place, 999) && isIn(-99, time, 99));
        return chosen(place, time);
    }

    public int takeChosen(int time) {
        argument(isIn(-99, time, 99));
        List<Integer> balls = new ArrayList<>();
        for (int box = 0; box < row.size(); box++) {
            balls.add(chosen(box, time));
        }
        if (!balls.stream().allMatch(ball -> isIn(0, ball, 1))) {
            throw new UnsupportedOperationException();
        }
        row = empty(row.size(), 1, false).with(balls);
        kept.clear();
        return row.sum();
    }

    // ---- laws, counting, queues

    public boolean obeys(int law, int neighbours) {
        argument(isIn(0, law, 255) && isIn(0, neighbours, 7));
        return binary(8, law).charAt(7 - neighbours) == '1';
    }

    private static String moved(String ring, int law) {
        String around = ring.charAt(ring.length() - 1) + ring + ring.charAt(0);
        StringBuilder next = new StringBuilder();
        for (int box = 0; box < ring.length(); box++) {
            next.append(binary(8, law).charAt(7 - Integer.parseInt(around.substring(box, box + 3), 2)));
        }
        return next.toString();
    }

    private static int balls(String text) {
        return (int) text.chars().filter(sign -> sign == '1').count();
    }

    public boolean keepsNumbers(int law) {
        argument(isIn(0, law, 255));
        for (int boxes = 3; boxes <= 7; boxes++) {
            for (int number = 0; number < 1 << boxes; number++) {
                String ring = binary(boxes, number);
                if (balls(ring) != balls(moved(ring, law))) {
                    return false;
                }
            }
        }
        return true;
    }

    public int move(int law) {
        argument(isIn(0, law, 255));
        if (!row.isRing || !row.isSimple()) {
            throw new UnsupportedOperationException();
        }
        row = simple(moved(row.text(), law), true);
        return row.sum();
    }

    public int type(int size) {
        argument(isIn(1, size, 9));
        if (sizes.size() == 6) {
            throw new IllegalStateException();
        }
        sizes.add(size);
        return sizes.size();
    }

    public int wipe() {
        int before = sizes.size();
        sizes.clear();
        return before;
    }

    private List<Integer> counted(int boxes) {
        List<Integer> due = new ArrayList<>(sizes);
        due.sort((a, b) -> b - a);
        List<Integer> numbers = new ArrayList<>();
        for (int number = 0; number < 1 << boxes; number++) {
            if (sizesOf(binary(boxes, number)).equals(due)) {
                numbers.add(number);
            }
        }
        return numbers;
    }

    public int countRows(int boxes) {
        argument(isIn(1, boxes, 12));
        return counted(boxes).size();
    }

    public int makeRow(int boxes, int index) {
        argument(isIn(1, boxes, 12));
        List<Integer> numbers = counted(boxes);
        if (!isIn(0, index, numbers.size() - 1)) {
            throw new NoSuchElementException();
        }
        row = simple(binary(boxes, numbers.get(index)), false);
        kept.clear();
        return numbers.get(index);
    }

    public int countImages(int boxes, int balls) {
        argument(isIn(1, boxes, 12) && isIn(0, balls, 12));
        if (2 * balls >= boxes) {
            throw new UnsupportedOperationException();
        }
        Set<String> images = new HashSet<>();
        for (int number = 0; number < 1 << boxes; number++) {
            String ring = binary(boxes, number);
            if (balls(ring) == balls) {
                images.add(after(simple(ring, true), 99).text());
            }
        }
        return images.size();
    }

    private static void place(int customer, int server) {
        if (!isIn(0, customer, 7) || !isIn(0, server, 5)) {
            throw new IndexOutOfBoundsException();
        }
    }

    public int setTime(int customer, int server, int time) {
        place(customer, server);
        argument(isIn(0, time, 99));
        int before = times[customer][server];
        times[customer][server] = time;
        return before;
    }

    /** The longest of all ways from the first customer at the first server. */
    private int longest(int customer, int server) {
        int ahead = 0;
        if (customer > 0) {
            ahead = Math.max(ahead, longest(customer - 1, server));
        }
        if (server > 0) {
            ahead = Math.max(ahead, longest(customer, server - 1));
        }
        return ahead + times[customer][server];
    }

    public int getLeaving(int customer, int server) {
        place(customer, server);
        return longest(customer, server);
    }

    public int getFilledBits() {
        float filled = row.balls.stream().filter(ball -> ball > 0).count();
        return Float.floatToIntBits(filled / (float) row.size());
    }

    public double getMeanSize() {
        simpleLine();
        List<Integer> found = sizesOf(row.text());
        if (found.isEmpty()) {
            throw new ArithmeticException();
        }
        return (double) found.stream().mapToInt(Integer::intValue).sum() / (double) found.size();
    }

    public long checksum() {
        long sum = 7;
        for (int box = 0; box < row.size(); box++) {
            sum = 31 * sum + row.capacities.get(box);
            sum = 31 * sum + row.balls.get(box);
        }
        return 31 * sum + kept.size();
    }

    public boolean isSound() {
        if (!row.isRing) {
            try {
                Boxes there = after(row, 3);
                if (!row.balls.equals(stepped(there, 3, false).balls)) {
                    return false;
                }
            } catch (UnsupportedOperationException e) {
                // What is refused is not looked at.
            }
        }
        if (row.isRing || !row.isSimple()) {
            return true;
        }
        List<Integer> found = sizesOf(row.text());
        for (int capacity = 1; capacity <= 99; capacity++) {
            int most = capacity;
            if (getEnergy(capacity) != found.stream().mapToInt(size -> Math.min(size, most)).sum()) {
                return false;
            }
        }
        List<Integer> runs = new ArrayList<>(runsOf(row.text(), 90).values());
        runs.sort((a, b) -> b - a);
        List<Integer> backward = new ArrayList<>(runsOf(row.text(), 90).descendingMap().values());
        return runs.equals(found) && backward.equals(found);
    }
}
