import java.util.Arrays;
import java.util.NoSuchElementException;

/**
 * Boxes with balls and a carrier that goes over them, what its steps keep, and what is near to them:
 * exchanged pieces, rows of chosen waves, small laws, counted rows, and queues in a row.
 */
public final class BoxballHall {
    private static final int MOST_BOXES = 60;
    private static final int MOST_ROOM = 4;
    private static final int FIRST_BOXES = 10;
    private static final int WIDEST_CARRIER = 99;
    private static final int MOST_STEPS = 99;
    private static final int MOST_KEPT = 8;
    private static final int LONGEST_PERIOD = 5000;
    private static final int LARGEST_PIECE = 9;
    private static final int MOST_CHOSEN = 5;
    private static final int GREATEST_SIZE = 9;
    private static final int GREATEST_PHASE = 60;
    private static final int FARTHEST_PLACE = 999;
    private static final int FARTHEST_TIME = 99;
    private static final int LAST_LAW = 255;
    private static final int LAST_NEIGHBOURS = 7;
    private static final int SHORTEST_LAW_RING = 3;
    private static final int LONGEST_LAW_RING = 7;
    private static final int MOST_TYPED = 6;
    private static final int MOST_COUNTED_BOXES = 12;
    private static final int CUSTOMERS = 8;
    private static final int SERVERS = 6;
    private static final int LONGEST_TIME = 99;
    private static final int SOUND_CAPACITY = 3;
    private static final int SOUND_STEPS = 90;

    private final Row row = new Row();
    private final Past past = new Past();
    private final Carrier carrier = new Carrier();
    private final Pairs pairs = new Pairs();
    private final Runs runs = new Runs();
    private final ThreePieces pieces = new ThreePieces();
    private final ChosenWaves chosen = new ChosenWaves();
    private final TypedSizes typed = new TypedSizes();
    private final NumberSet images = new NumberSet();
    private final Queues queues = new Queues();

    // Steps in thought go over these, so that no call has to make a row of its own.
    private final Row thought = new Row();
    private final Row otherThought = new Row();

    public BoxballHall() {
        row.clearTo(FIRST_BOXES, 1, false);
    }

    // ---- rows and steps

    public int setRow(int boxes, int capacity, boolean isRing) throws IllegalArgumentException {
        demandRange(boxes, 1, MOST_BOXES);
        demandRange(capacity, 1, MOST_ROOM);
        int before = row.boxes;
        row.clearTo(boxes, capacity, isRing);
        past.forget();
        return before;
    }

    public int setCapacity(int box, int capacity) throws IndexOutOfBoundsException, IllegalArgumentException {
        demandBox(box);
        demandRange(capacity, 1, MOST_ROOM);
        int before = row.capacities[box];
        row.capacities[box] = capacity;
        row.balls[box] = Math.min(row.balls[box], capacity);
        return before;
    }

    public int setBalls(int box, int balls) throws IndexOutOfBoundsException, IllegalArgumentException {
        demandBox(box);
        demandRange(balls, 0, row.capacities[box]);
        int before = row.balls[box];
        row.balls[box] = balls;
        return before;
    }

    public int getBalls(int box) throws IndexOutOfBoundsException {
        demandBox(box);
        return row.balls[box];
    }

    public int countBalls() {
        return row.sumOfBalls();
    }

    public int step(int capacity) throws IllegalArgumentException, UnsupportedOperationException {
        return stepTo(capacity, true);
    }

    public int stepBack(int capacity) throws IllegalArgumentException, UnsupportedOperationException {
        return stepTo(capacity, false);
    }

    public int run(int steps, int capacity) throws IllegalArgumentException {
        demandRange(steps, 1, MOST_STEPS);
        demandRange(capacity, 1, WIDEST_CARRIER);
        int made = 0;
        while (made < steps && carrier.canPass(row, capacity, true)) {
            takeStep();
            made++;
        }
        return made;
    }

    public int countKept() {
        return past.kept;
    }

    public int getPast(int steps, int box) throws NoSuchElementException, IndexOutOfBoundsException {
        if (!past.hasRow(steps)) {
            throw new NoSuchElementException("that row is not kept");
        }
        demandBox(box);
        return past.ballsOf(steps, box);
    }

    public int undo() throws NoSuchElementException {
        if (!past.hasRow(1)) {
            throw new NoSuchElementException("no row is kept");
        }
        past.giveBack(row);
        return past.kept;
    }

    public boolean commute(int one, int other) throws IllegalArgumentException, UnsupportedOperationException {
        demandRange(one, 1, WIDEST_CARRIER);
        demandRange(other, 1, WIDEST_CARRIER);
        thought.become(row);
        stepInThought(thought, one);
        stepInThought(thought, other);
        otherThought.become(row);
        stepInThought(otherThought, other);
        stepInThought(otherThought, one);
        return thought.hasBallsOf(otherThought);
    }

    public int getPeriod(int capacity)
            throws IllegalArgumentException, UnsupportedOperationException, NoSuchElementException {
        demandRange(capacity, 1, WIDEST_CARRIER);
        if (!row.isRing) {
            throw new UnsupportedOperationException("the row is a line");
        }
        thought.become(row);
        for (int steps = 1; steps <= LONGEST_PERIOD; steps++) {
            stepInThought(thought, capacity);
            if (thought.hasBallsOf(row)) {
                return steps;
            }
        }
        throw new NoSuchElementException("the period is too long");
    }

    // ---- kept things

    public int countPairs(int round) throws IllegalArgumentException, UnsupportedOperationException {
        if (round < 1) {
            throw new IllegalArgumentException("rounds begin with 1");
        }
        removePairs();
        return pairs.inRound(round);
    }

    public int countWaves() throws UnsupportedOperationException {
        removePairs();
        return pairs.countAll();
    }

    public int getSize(int wave) throws UnsupportedOperationException, NoSuchElementException {
        removePairs();
        if (wave < 0 || wave >= pairs.countAll()) {
            throw new NoSuchElementException("there is no such wave");
        }
        return pairs.sizeOf(wave);
    }

    public int getEnergy(int capacity) throws IllegalArgumentException, UnsupportedOperationException {
        demandRange(capacity, 1, WIDEST_CARRIER);
        demandSimpleLine();
        return carrier.countPickups(row, capacity);
    }

    public int countRuns(int steps) throws IllegalArgumentException, UnsupportedOperationException {
        walkRuns(steps);
        return runs.countAll();
    }

    public int getRun(int steps, int run)
            throws IllegalArgumentException, UnsupportedOperationException, NoSuchElementException {
        walkRuns(steps);
        return runs.lengthFrom(firstBallOf(run));
    }

    public int getPlace(int steps, int run)
            throws IllegalArgumentException, UnsupportedOperationException, NoSuchElementException {
        walkRuns(steps);
        return runs.placeOf(firstBallOf(run));
    }

    // ---- exchanges and chosen waves

    public int exchange(int capacity, int balls, int other, int others, boolean isFirst)
            throws IllegalArgumentException {
        demandRange(capacity, 1, LARGEST_PIECE);
        demandRange(balls, 0, capacity);
        demandRange(other, 1, LARGEST_PIECE);
        demandRange(others, 0, other);
        int left = ballsLeftBehind(capacity, balls, other, others);
        return isFirst ? left : balls + others - left;
    }

    public int turnRound(int capacities, int balls, boolean isFirst) throws IllegalArgumentException {
        demandRange(capacities, 111, 999);
        demandRange(balls, 0, 999);
        pieces.putDigits(capacities, balls);
        if (!pieces.areWhole()) {
            throw new IllegalArgumentException("a piece has no capacity, or more balls than that");
        }
        int begin = isFirst ? 0 : 1;
        pieces.swapFrom(begin);
        pieces.swapFrom(1 - begin);
        pieces.swapFrom(begin);
        return pieces.ballsAsDigits();
    }

    public int addWave(int size, int phase) throws IllegalArgumentException, IllegalStateException {
        demandRange(size, 1, GREATEST_SIZE);
        demandRange(phase, -GREATEST_PHASE, GREATEST_PHASE);
        if (chosen.count >= MOST_CHOSEN) {
            throw new IllegalStateException("there are as many waves as can be");
        }
        chosen.put(size, phase);
        return chosen.count;
    }

    public int clearWaves() {
        int before = chosen.count;
        chosen.count = 0;
        return before;
    }

    public int getHeight(int place, int time) throws IllegalArgumentException {
        demandPlaceAndTime(place, time);
        return chosen.heightAt(place, time);
    }

    public int getChosen(int place, int time) throws IllegalArgumentException {
        demandPlaceAndTime(place, time);
        return chosen.ballsAt(place, time);
    }

    public int takeChosen(int time) throws IllegalArgumentException, UnsupportedOperationException {
        demandRange(time, -FARTHEST_TIME, FARTHEST_TIME);
        thought.clearTo(row.boxes, 1, false);
        for (int box = 0; box < thought.boxes; box++) {
            int balls = chosen.ballsAt(box, time);
            if (balls < 0 || balls > 1) {
                throw new UnsupportedOperationException("a box would not have 0 or 1");
            }
            thought.balls[box] = balls;
        }
        row.become(thought);
        past.forget();
        return row.sumOfBalls();
    }

    // ---- laws, counting, queues

    public boolean obeys(int law, int neighbours) throws IllegalArgumentException {
        demandRange(law, 0, LAST_LAW);
        demandRange(neighbours, 0, LAST_NEIGHBOURS);
        return ballByLaw(law, neighbours) == 1;
    }

    public boolean keepsNumbers(int law) throws IllegalArgumentException {
        demandRange(law, 0, LAST_LAW);
        for (int boxes = SHORTEST_LAW_RING; boxes <= LONGEST_LAW_RING; boxes++) {
            for (int number = 0; number < (1 << boxes); number++) {
                if (ballsAfterLaw(law, boxes, number) != Integer.bitCount(number)) {
                    return false;
                }
            }
        }
        return true;
    }

    public int move(int law) throws IllegalArgumentException, UnsupportedOperationException {
        demandRange(law, 0, LAST_LAW);
        if (!row.isRing || !row.isSimple()) {
            throw new UnsupportedOperationException("the row is no simple ring");
        }
        thought.become(row);
        for (int box = 0; box < row.boxes; box++) {
            row.balls[box] = ballByLaw(law, thought.neighboursOf(box));
        }
        return row.sumOfBalls();
    }

    public int type(int size) throws IllegalArgumentException, IllegalStateException {
        demandRange(size, 1, GREATEST_SIZE);
        if (typed.count >= MOST_TYPED) {
            throw new IllegalStateException("as many sizes are typed as can be");
        }
        typed.put(size);
        return typed.count;
    }

    public int wipe() {
        int before = typed.count;
        typed.count = 0;
        return before;
    }

    public int countRows(int boxes) throws IllegalArgumentException {
        demandRange(boxes, 1, MOST_COUNTED_BOXES);
        int count = 0;
        for (int number = 0; number < (1 << boxes); number++) {
            if (hasTypedSizes(boxes, number)) {
                count++;
            }
        }
        return count;
    }

    public int makeRow(int boxes, int index) throws IllegalArgumentException, NoSuchElementException {
        demandRange(boxes, 1, MOST_COUNTED_BOXES);
        int number = findRow(boxes, index);
        if (number < 0) {
            throw new NoSuchElementException("there is no such row");
        }
        row.becomeNumber(boxes, number, false);
        past.forget();
        return number;
    }

    public int countImages(int boxes, int balls) throws IllegalArgumentException, UnsupportedOperationException {
        demandRange(boxes, 1, MOST_COUNTED_BOXES);
        demandRange(balls, 0, MOST_COUNTED_BOXES);
        if (balls * 2 >= boxes) {
            throw new UnsupportedOperationException("there are not fewer balls than half of the boxes");
        }
        images.clearAll();
        for (int number = 0; number < (1 << boxes); number++) {
            if (Integer.bitCount(number) == balls) {
                thought.becomeNumber(boxes, number, true);
                stepInThought(thought, WIDEST_CARRIER);
                images.put(thought.asNumber());
            }
        }
        return images.countAll();
    }

    public int setTime(int customer, int server, int time) throws IndexOutOfBoundsException, IllegalArgumentException {
        demandPlaceInQueue(customer, server);
        demandRange(time, 0, LONGEST_TIME);
        int before = queues.times[customer][server];
        queues.times[customer][server] = time;
        return before;
    }

    public int getLeaving(int customer, int server) throws IndexOutOfBoundsException {
        demandPlaceInQueue(customer, server);
        return queues.leavingOf(customer, server);
    }

    public int getFilledBits() {
        float share = (float) row.countFilled() / (float) row.boxes;
        return bitsOfShare(share);
    }

    public double getMeanSize() throws UnsupportedOperationException, ArithmeticException {
        removePairs();
        int waves = pairs.countAll();
        if (waves == 0) {
            throw new ArithmeticException("there are no waves");
        }
        return (double) pairs.sumOfSizes(MOST_BOXES) / (double) waves;
    }

    public long checksum() {
        long sum = 7;
        for (int box = 0; box < row.boxes; box++) {
            sum = 31 * sum + row.capacities[box];
            sum = 31 * sum + row.balls[box];
        }
        return 31 * sum + past.kept;
    }

    public boolean isSound() {
        return isTurnedBack() && areWavesSound() && queues.areLeavingsLongestWays();
    }

    private static void demandRange(int number, int least, int most) {
        if (number < least || number > most) {
            throw new IllegalArgumentException("a number is out of range");
        }
    }

    private static void demandPlaceAndTime(int place, int time) {
        demandRange(place, -FARTHEST_PLACE, FARTHEST_PLACE);
        demandRange(time, -FARTHEST_TIME, FARTHEST_TIME);
    }

    private static void demandPlaceInQueue(int customer, int server) {
        if (customer < 0 || customer >= CUSTOMERS || server < 0 || server >= SERVERS) {
            throw new IndexOutOfBoundsException("there is no such customer or server");
        }
    }

    private void demandBox(int box) {
        if (box < 0 || box >= row.boxes) {
            throw new IndexOutOfBoundsException("there is no such box");
        }
    }

    private void demandSimpleLine() {
        if (row.isRing || !row.isSimple()) {
            throw new UnsupportedOperationException("the row is no simple line");
        }
    }

    private int stepTo(int capacity, boolean isForward) {
        demandRange(capacity, 1, WIDEST_CARRIER);
        if (!carrier.canPass(row, capacity, isForward)) {
            throw new UnsupportedOperationException("the step is refused");
        }
        takeStep();
        return carrier.most;
    }

    private void takeStep() {
        past.keep(row);
        row.takeBalls(carrier.left);
    }

    private void stepInThought(Row inThought, int capacity) {
        if (!carrier.canPass(inThought, capacity, true)) {
            throw new UnsupportedOperationException("a step is refused");
        }
        inThought.takeBalls(carrier.left);
    }

    private void removePairs() {
        demandSimpleLine();
        pairs.removeAll(row);
    }

    private void walkRuns(int steps) {
        demandRange(steps, 0, MOST_STEPS);
        demandSimpleLine();
        runs.walk(row, steps);
    }

    private int firstBallOf(int run) {
        int ball = runs.findFirstBall(run);
        if (ball < 0) {
            throw new NoSuchElementException("there is no such run");
        }
        return ball;
    }

    private boolean hasTypedSizes(int boxes, int number) {
        if (Integer.bitCount(number) != typed.sumOfSizes()) {
            return false;
        }
        thought.becomeNumber(boxes, number, false);
        pairs.removeAll(thought);
        for (int round = 1; round <= MOST_COUNTED_BOXES; round++) {
            if (pairs.inRound(round) != typed.countFrom(round)) {
                return false;
            }
        }
        return true;
    }

    private int findRow(int boxes, int index) {
        int ahead = 0;
        for (int number = 0; number < (1 << boxes); number++) {
            if (hasTypedSizes(boxes, number)) {
                if (ahead == index) {
                    return number;
                }
                ahead++;
            }
        }
        return -1;
    }

    private boolean isTurnedBack() {
        if (row.isRing || !carrier.canPass(row, SOUND_CAPACITY, true)) {
            return true;
        }
        thought.become(row);
        thought.takeBalls(carrier.left);
        if (!carrier.canPass(thought, SOUND_CAPACITY, false)) {
            return false;
        }
        thought.takeBalls(carrier.left);
        return thought.hasBallsOf(row);
    }

    private boolean areWavesSound() {
        if (row.isRing || !row.isSimple()) {
            return true;
        }
        pairs.removeAll(row);
        return areEnergiesSums() && areRunsWaves();
    }

    private boolean areEnergiesSums() {
        for (int capacity = 1; capacity <= WIDEST_CARRIER; capacity++) {
            if (carrier.countPickups(row, capacity) != pairs.sumOfSizes(capacity)) {
                return false;
            }
        }
        return true;
    }

    private boolean areRunsWaves() {
        runs.walk(row, SOUND_STEPS);
        int waves = pairs.countAll();
        if (runs.countAll() != waves) {
            return false;
        }
        for (int run = 0; run < waves; run++) {
            if (runs.lengthFrom(runs.findFirstBall(run)) != pairs.sizeOf(waves - 1 - run)) {
                return false;
            }
        }
        return true;
    }

    /** What a box has behind a carrier that came to it with a load. */
    private static int ballsLeftBehind(int limit, int load, int capacity, int balls) {
        return Math.min(load, capacity - balls) + Math.max(0, load + balls - limit);
    }

    private static int ballByLaw(int law, int neighbours) {
        return (law >> neighbours) & 1;
    }

    private static int ballsAfterLaw(int law, int boxes, int number) {
        // Beside both ends stands the box of the other end, so that three bits can be read anywhere.
        int rounded = ((number & 1) << (boxes + 1)) | (number << 1) | (number >> (boxes - 1));
        int balls = 0;
        for (int box = 0; box < boxes; box++) {
            balls += ballByLaw(law, (rounded >> box) & LAST_NEIGHBOURS);
        }
        return balls;
    }

    /** The bits of a float of 0 to 1: put together by hand, as the library's function is not to be had. */
    private static int bitsOfShare(float share) {
        if (share <= 0f) {
            return 0;
        }
        int exponent = 127;
        float mantissa = share;
        while (mantissa < 1f && exponent > 1) {
            mantissa = mantissa * 2f;
            exponent--;
        }
        return (exponent << 23) | (int) ((mantissa - 1f) * 8388608f);
    }

    /** Boxes in a row; the number of boxes stays within what the arrays hold. */
    private static final class Row {
        private final int[] capacities = new int[MOST_BOXES];
        private final int[] balls = new int[MOST_BOXES];
        private int boxes = 1;
        private boolean isRing;

        private void clearTo(int newBoxes, int capacity, boolean isNowRing) {
            boxes = Math.max(1, Math.min(newBoxes, MOST_BOXES));
            isRing = isNowRing;
            Arrays.fill(capacities, capacity);
            Arrays.fill(balls, 0);
        }

        private void become(Row other) {
            boxes = other.boxes;
            isRing = other.isRing;
            takeCapacities(other.capacities);
            takeBalls(other.balls);
        }

        private void becomeNumber(int newBoxes, int number, boolean isNowRing) {
            clearTo(newBoxes, 1, isNowRing);
            for (int box = 0; box < boxes; box++) {
                balls[box] = (number >> (boxes - 1 - box)) & 1;
            }
        }

        private int asNumber() {
            int number = 0;
            for (int box = 0; box < boxes; box++) {
                number = (number << 1) | balls[box];
            }
            return number;
        }

        private void takeCapacities(int[] others) {
            for (int box = 0; box < boxes && box < others.length; box++) {
                capacities[box] = others[box];
            }
        }

        private void takeBalls(int[] others) {
            for (int box = 0; box < boxes && box < others.length; box++) {
                balls[box] = others[box];
            }
        }

        private boolean hasBallsOf(Row other) {
            for (int box = 0; box < boxes; box++) {
                if (balls[box] != other.balls[box]) {
                    return false;
                }
            }
            return true;
        }

        private boolean isSimple() {
            for (int box = 0; box < boxes; box++) {
                if (capacities[box] != 1) {
                    return false;
                }
            }
            return true;
        }

        private int sumOfBalls() {
            int sum = 0;
            for (int box = 0; box < boxes; box++) {
                sum += balls[box];
            }
            return sum;
        }

        private int countFilled() {
            int count = 0;
            for (int box = 0; box < boxes; box++) {
                if (balls[box] > 0) {
                    count++;
                }
            }
            return count;
        }

        private int neighboursOf(int box) {
            int toLeft = box > 0 ? box - 1 : boxes - 1;
            int toRight = box < boxes - 1 ? box + 1 : 0;
            return (balls[toLeft] << 2) | (balls[box] << 1) | balls[toRight];
        }
    }

    /** The last rows ahead of steps; the newest one overwrites the oldest one when all places are taken. */
    private static final class Past {
        private final int[][] capacities = new int[MOST_KEPT][MOST_BOXES];
        private final int[][] balls = new int[MOST_KEPT][MOST_BOXES];
        private int kept;
        private int next;

        private void forget() {
            kept = 0;
        }

        private boolean hasRow(int steps) {
            return steps >= 1 && steps <= kept;
        }

        private int slotOf(int steps) {
            return Math.floorMod(next - steps, MOST_KEPT);
        }

        private int ballsOf(int steps, int box) {
            return balls[slotOf(steps)][box];
        }

        private void keep(Row row) {
            for (int box = 0; box < row.boxes; box++) {
                capacities[next][box] = row.capacities[box];
                balls[next][box] = row.balls[box];
            }
            next = slotOf(-1);
            kept = Math.min(kept + 1, MOST_KEPT);
        }

        private void giveBack(Row row) {
            next = slotOf(1);
            kept = Math.max(kept - 1, 0);
            row.takeCapacities(capacities[next]);
            row.takeBalls(balls[next]);
        }
    }

    /** Goes over a row and leaves the row as it is: what the boxes would have then stands beside it. */
    private static final class Carrier {
        private final int[] left = new int[MOST_BOXES];
        private int most;

        private boolean canPass(Row row, int limit, boolean isForward) {
            int start = row.isRing ? goOver(row, limit, 0, isForward) : 0;
            return goOver(row, limit, start, isForward) == start;
        }

        private int goOver(Row row, int limit, int start, boolean isForward) {
            int load = start;
            most = start;
            for (int gone = 0; gone < row.boxes; gone++) {
                int box = isForward ? gone : row.boxes - 1 - gone;
                left[box] = ballsLeftBehind(limit, load, row.capacities[box], row.balls[box]);
                load += row.balls[box] - left[box];
                most = Math.max(most, load);
            }
            return load;
        }

        private int countPickups(Row row, int limit) {
            goOver(row, limit, 0, true);
            int count = 0;
            for (int box = 0; box < row.boxes; box++) {
                if (row.balls[box] > 0 && left[box] == 0) {
                    count++;
                }
            }
            return count;
        }
    }

    /** The pairs that are removed of a simple line, round by round, and the waves that they tell of. */
    private static final class Pairs {
        private final int[] standing = new int[2 * MOST_BOXES];
        private final int[] removed = new int[MOST_BOXES];
        private int rounds;

        private void removeAll(Row row) {
            int length = standUp(row);
            rounds = 0;
            while (rounds < MOST_BOXES) {
                int pairs = removeRound(length);
                if (pairs == 0) {
                    return;
                }
                removed[rounds] = pairs;
                rounds++;
                length -= 2 * pairs;
            }
        }

        /** Each ball needs one empty box at most: so many behind the last one are as good as endless ones. */
        private int standUp(Row row) {
            Arrays.fill(standing, 0);
            for (int box = 0; box < row.boxes; box++) {
                standing[box] = row.balls[box];
            }
            return row.boxes + row.sumOfBalls();
        }

        private int removeRound(int length) {
            int pairs = 0;
            int stays = 0;
            int box = 0;
            while (box < length && box < standing.length) {
                boolean hasNext = box + 1 < length && box + 1 < standing.length;
                if (hasNext && standing[box] == 1 && standing[box + 1] == 0) {
                    pairs++;
                    box += 2;
                } else {
                    standing[stays] = standing[box];
                    stays++;
                    box++;
                }
            }
            return pairs;
        }

        private int inRound(int round) {
            return round >= 1 && round <= rounds ? removed[round - 1] : 0;
        }

        private int countAll() {
            return inRound(1);
        }

        private int sizeOf(int wave) {
            int size = 0;
            for (int round = 0; round < rounds; round++) {
                if (removed[round] > wave) {
                    size++;
                }
            }
            return size;
        }

        private int sumOfSizes(int most) {
            int sum = 0;
            for (int wave = 0; wave < countAll(); wave++) {
                sum += Math.min(sizeOf(wave), most);
            }
            return sum;
        }
    }

    /** The balls of a simple line on endless boxes, told by their places, as they go far behind the last box. */
    private static final class Runs {
        private final int[] places = new int[MOST_BOXES];
        private final int[] nextPlaces = new int[MOST_BOXES];
        private int balls;
        private int laid;

        private void walk(Row row, int steps) {
            balls = 0;
            for (int box = 0; box < row.boxes; box++) {
                if (row.balls[box] > 0) {
                    places[balls] = box;
                    balls++;
                }
            }
            for (int made = 0; made < steps; made++) {
                goOn();
            }
        }

        /** All balls go into one carrier here: its capacity is more than a simple line has balls. */
        private void goOn() {
            laid = 0;
            for (int ball = 0; ball < balls; ball++) {
                boolean isLast = ball == balls - 1;
                int room = isLast ? MOST_BOXES : places[ball + 1] - places[ball] - 1;
                int load = ball + 1 - laid;
                layDown(places[ball] + 1, Math.min(load, room));
            }
            for (int ball = 0; ball < balls; ball++) {
                places[ball] = nextPlaces[ball];
            }
        }

        private void layDown(int firstPlace, int count) {
            for (int gone = 0; gone < count && laid < MOST_BOXES; gone++) {
                nextPlaces[laid] = firstPlace + gone;
                laid++;
            }
        }

        private boolean isFirstBall(int ball) {
            return ball == 0 || places[ball] > places[ball - 1] + 1;
        }

        private int countAll() {
            int count = 0;
            for (int ball = 0; ball < balls; ball++) {
                if (isFirstBall(ball)) {
                    count++;
                }
            }
            return count;
        }

        private int findFirstBall(int run) {
            int ahead = 0;
            for (int ball = 0; ball < balls; ball++) {
                if (isFirstBall(ball)) {
                    if (ahead == run) {
                        return ball;
                    }
                    ahead++;
                }
            }
            return -1;
        }

        private int lengthFrom(int firstBall) {
            int end = firstBall + 1;
            while (end < balls && !isFirstBall(end)) {
                end++;
            }
            return end - firstBall;
        }

        private int placeOf(int ball) {
            return ball >= 0 && ball < balls ? places[ball] : 0;
        }
    }

    /** Three pieces side by side, told by digits. */
    private static final class ThreePieces {
        private final int[] capacities = new int[3];
        private final int[] balls = new int[3];

        private void putDigits(int capacityDigits, int ballDigits) {
            int capacitiesAhead = capacityDigits;
            int ballsAhead = ballDigits;
            for (int place = 2; place >= 0; place--) {
                capacities[place] = capacitiesAhead % 10;
                balls[place] = ballsAhead % 10;
                capacitiesAhead /= 10;
                ballsAhead /= 10;
            }
        }

        private boolean areWhole() {
            for (int place = 0; place < 3; place++) {
                if (capacities[place] < 1 || balls[place] > capacities[place]) {
                    return false;
                }
            }
            return true;
        }

        private void swapFrom(int place) {
            if (place < 0 || place > 1) {
                return;
            }
            int limit = capacities[place];
            int together = balls[place] + balls[place + 1];
            int left = ballsLeftBehind(limit, balls[place], capacities[place + 1], balls[place + 1]);
            capacities[place] = capacities[place + 1];
            balls[place] = left;
            capacities[place + 1] = limit;
            balls[place + 1] = together - left;
        }

        private int ballsAsDigits() {
            return balls[0] * 100 + balls[1] * 10 + balls[2];
        }
    }

    /** The chosen waves, and the rows that greatest sums of theirs make. */
    private static final class ChosenWaves {
        private final int[] sizes = new int[MOST_CHOSEN];
        private final int[] phases = new int[MOST_CHOSEN];
        private int count;

        private void put(int size, int phase) {
            if (count < MOST_CHOSEN) {
                sizes[count] = size;
                phases[count] = phase;
                count++;
            }
        }

        private int ballsAt(int place, int time) {
            return slopeAt(place, time + 1) - slopeAt(place, time);
        }

        private int slopeAt(int place, int time) {
            return heightAt(place, time) - heightAt(place + 1, time);
        }

        private int heightAt(int place, int time) {
            int height = 0;
            for (int choice = 1; choice < (1 << count); choice++) {
                height = Math.max(height, sumOf(choice, place, time));
            }
            return height;
        }

        private int sumOf(int choice, int place, int time) {
            int sum = 0;
            for (int wave = 0; wave < count; wave++) {
                if (isIn(choice, wave)) {
                    sum += sizes[wave] * time + phases[wave] - place - lossWithEarlier(choice, wave);
                }
            }
            return sum;
        }

        /** What the pairs of a wave and each one told ahead of it take off; so each pair counts once. */
        private int lossWithEarlier(int choice, int wave) {
            int loss = 0;
            for (int earlier = 0; earlier < wave; earlier++) {
                if (isIn(choice, earlier)) {
                    loss += 2 * Math.min(sizes[earlier], sizes[wave]);
                }
            }
            return loss;
        }

        private static boolean isIn(int choice, int wave) {
            return (choice >> wave & 1) == 1;
        }
    }

    /** The sizes that are typed. */
    private static final class TypedSizes {
        private final int[] sizes = new int[MOST_TYPED];
        private int count;

        private void put(int size) {
            if (count < MOST_TYPED) {
                sizes[count] = size;
                count++;
            }
        }

        private int sumOfSizes() {
            int sum = 0;
            for (int index = 0; index < count; index++) {
                sum += sizes[index];
            }
            return sum;
        }

        private int countFrom(int least) {
            int number = 0;
            for (int index = 0; index < count; index++) {
                if (sizes[index] >= least) {
                    number++;
                }
            }
            return number;
        }
    }

    /** Numbers of rows, a bit for each, as a call that counts rows must not fill the room with marks. */
    private static final class NumberSet {
        private final long[] words = new long[(1 << MOST_COUNTED_BOXES) / 64];

        private void clearAll() {
            Arrays.fill(words, 0L);
        }

        private void put(int number) {
            int word = number >> 6;
            if (word >= 0 && word < words.length) {
                words[word] |= 1L << (number & 63);
            }
        }

        private int countAll() {
            int count = 0;
            for (long word : words) {
                count += Long.bitCount(word);
            }
            return count;
        }
    }

    /** Customers that go through servers, one behind the other. */
    private static final class Queues {
        private final int[][] times = new int[CUSTOMERS][SERVERS];
        private final int[] ways = new int[SERVERS];

        private int leavingOf(int customer, int server) {
            Arrays.fill(ways, 0);
            for (int c = 0; c <= customer && c < CUSTOMERS; c++) {
                for (int s = 0; s <= server && s < SERVERS; s++) {
                    int begin = s > 0 ? Math.max(ways[s], ways[s - 1]) : ways[s];
                    ways[s] = begin + times[c][s];
                }
            }
            return ways[server];
        }

        private boolean areLeavingsLongestWays() {
            for (int customer = 0; customer < CUSTOMERS; customer++) {
                for (int server = 0; server < SERVERS; server++) {
                    if (leavingOf(customer, server) != longestWayTo(customer, server)) {
                        return false;
                    }
                }
            }
            return true;
        }

        /** Looked for from its end on, lest it be the leavings' own reckoning once more. */
        private int longestWayTo(int customer, int server) {
            Arrays.fill(ways, 0);
            for (int c = customer; c >= 0; c--) {
                for (int s = server; s >= 0; s--) {
                    int behind = s < server ? Math.max(ways[s], ways[s + 1]) : ways[s];
                    ways[s] = behind + times[c][s];
                }
            }
            return ways[0];
        }
    }
}
