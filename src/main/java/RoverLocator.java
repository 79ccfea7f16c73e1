import java.util.NoSuchElementException;

/**
 * A locator of a rover on a grid, as ../shared/DOC.md promises it.
 *
 * Every array is made with the object and used again, because all calls of a run share one room.
 */
public final class RoverLocator {
    private static final int WHOLE = 1000000;
    private static final int MAX_SIDE = 6;
    private static final int MAX_CELLS = 36;
    private static final int MARKS = 4;
    private static final int DIRECTIONS = 4;
    private static final int MAX_COST = 9;
    private static final int PERCENT = 100;
    private static final int MOTION_SUM = 16;
    private static final int WAYS_TO_GO = 4;
    private static final int MAX_STEPS = 8;
    private static final int SIGHT = 10;
    private static final int MAX_CHANGES = 6;
    private static final int MAX_TEXT = 45;
    private static final int ANYWHERE = -1;
    private static final int NO_WAY = 1000000;
    private static final int COST_WITHOUT_WAY = 100;
    private static final int UNSEEN = 0;
    private static final int SEEN = 1;
    private static final int RESTARTED = 2;

    private final State now = new State();
    private final State kept = new State();
    private boolean isKept = false;
    private final Changes changes = new Changes();
    private final MapText text = new MapText();
    private int errorAt = -1;
    private final Filter filter = new Filter();
    private final Ranking ranking = new Ranking();
    private final Rows rows = new Rows();
    private final Ways ways = new Ways();

    public RoverLocator() {
        filter.evenInto(now.grid, now.beliefs);
    }

    public int append(int packed) throws IllegalArgumentException, IllegalStateException {
        if (!MapText.arePrintable(packed)) {
            throw new IllegalArgumentException("a character is not from 33 to 126");
        }
        if (text.length + MapText.signsIn(packed) > MAX_TEXT) {
            throw new IllegalStateException("the buffer is too small");
        }
        text.add(packed);
        return text.length;
    }

    public int load() throws IllegalArgumentException {
        errorAt = text.findError();
        if (errorAt >= 0) {
            text.length = 0;
            throw new IllegalArgumentException("the text is not a map");
        }
        changes.keep(now);
        text.writeTo(now.grid);
        text.length = 0;
        now.roverCell = now.grid.lowestFree();
        forget();
        return now.grid.freeCells();
    }

    public int errorPosition() {
        return errorAt;
    }

    public boolean setWall(int cell, boolean wall) throws IndexOutOfBoundsException, IllegalStateException {
        requireCell(cell);
        boolean before = !now.grid.isFree(cell);
        if (wall && !before && (now.grid.freeCells() == 1 || now.roverCell == cell)) {
            throw new IllegalStateException("the cell has to stay free");
        }
        changes.keep(now);
        if (wall != before) {
            now.grid.build(cell, wall ? Grid.WALL : 0);
            now.grid.connect();
            forget();
        }
        return before;
    }

    public int setMark(int cell, int mark)
            throws IndexOutOfBoundsException, IllegalArgumentException, IllegalStateException {
        requireCell(cell);
        requireMark(mark);
        requireFree(cell);
        changes.keep(now);
        int before = now.grid.marks[cell];
        now.grid.marks[cell] = mark;
        return before;
    }

    public int setCost(int cell, int cost)
            throws IndexOutOfBoundsException, IllegalArgumentException, IllegalStateException {
        requireCell(cell);
        if (cost < 1 || cost > MAX_COST) {
            throw new IllegalArgumentException("the cost is not from 1 to 9");
        }
        requireFree(cell);
        changes.keep(now);
        int before = now.grid.costs[cell];
        now.grid.costs[cell] = cost;
        return before;
    }

    public int setMotion(int ahead, int left, int right) throws IllegalArgumentException {
        requireMotionNumber(ahead);
        requireMotionNumber(left);
        requireMotionNumber(right);
        int stay = MOTION_SUM - ahead - left - right;
        if (stay < 0) {
            throw new IllegalArgumentException("the sum of the numbers is greater than 16");
        }
        changes.keep(now);
        now.tables.motions[0] = ahead;
        now.tables.motions[1] = left;
        now.tables.motions[2] = right;
        now.tables.motions[3] = stay;
        return stay;
    }

    public int setSensor(int mark, int seen, int weight) throws IndexOutOfBoundsException, IllegalArgumentException {
        if (!isMark(mark) || !isMark(seen)) {
            throw new IndexOutOfBoundsException("there is no such mark");
        }
        requirePercent(weight, 0);
        changes.keep(now);
        int before = now.tables.sensors[mark * MARKS + seen];
        now.tables.sensors[mark * MARKS + seen] = weight;
        return before;
    }

    public int setRate(int rate) throws IllegalArgumentException {
        requirePercent(rate, 0);
        changes.keep(now);
        int before = now.tables.rate;
        now.tables.rate = rate;
        return before;
    }

    public int setLimit(int limit) throws IllegalArgumentException {
        requirePercent(limit, 0);
        changes.keep(now);
        int before = now.tables.limit;
        now.tables.limit = limit;
        return before;
    }

    public int cell(int cell, int what) throws IndexOutOfBoundsException, IllegalArgumentException {
        requireCell(cell);
        boolean free = now.grid.isFree(cell);
        switch (what) {
            case 0:
                return free ? 0 : 1;
            case 1:
                return free ? now.grid.marks[cell] : 0;
            case 2:
                return free ? now.grid.costs[cell] : 0;
            case 3:
                return now.grid.exits(cell);
            default:
                throw new IllegalArgumentException("there is no such property");
        }
    }

    public int motion(int from, int to, int direction) throws IndexOutOfBoundsException, IllegalArgumentException {
        requireCell(from);
        requireCell(to);
        requireDirection(direction);
        if (!now.grid.isFree(from) || !now.grid.isFree(to)) {
            return 0;
        }
        int sum = 0;
        for (int way = 0; way < WAYS_TO_GO; way++) {
            if (now.grid.target(from, direction, way) == to) {
                sum += now.tables.motions[way];
            }
        }
        return sum;
    }

    public int map(int index) throws IndexOutOfBoundsException {
        int length = now.grid.height * (now.grid.width + 1) - 1;
        if (index < -1 || index >= length) {
            throw new IndexOutOfBoundsException("the text of the map has no such index");
        }
        return index == -1 ? length : MapText.signAt(now.grid, index);
    }

    public int spread() {
        changes.keep(now);
        forget();
        return now.grid.freeCells();
    }

    public int place(int cell) throws IndexOutOfBoundsException, IllegalStateException {
        requireCell(cell);
        requireFree(cell);
        changes.keep(now);
        int before = now.beliefs[cell];
        for (int other = 0; other < MAX_CELLS; other++) {
            now.beliefs[other] = 0;
        }
        now.beliefs[cell] = WHOLE;
        now.trail.clear(cell);
        return before;
    }

    public int move(int direction) throws IllegalArgumentException {
        requireDirection(direction);
        changes.keep(now);
        goOn(direction);
        return now.greatestBelief();
    }

    public boolean see(int mark) throws IllegalArgumentException, IllegalStateException {
        requireMark(mark);
        int outcome = filter.weighSightOrRestart(now, mark);
        if (outcome == UNSEEN) {
            throw new IllegalStateException("the mark cannot be seen");
        }
        changes.keep(now);
        takeSight(mark, outcome);
        return outcome == RESTARTED;
    }

    public int belief(int cell) throws IndexOutOfBoundsException {
        requireCell(cell);
        return now.beliefs[cell];
    }

    public int ranked(int rank) throws IndexOutOfBoundsException {
        requireCell(rank);
        ranking.rank(now);
        return ranking.order[rank];
    }

    public int core(int percent) throws IllegalArgumentException {
        requirePercent(percent, 1);
        ranking.rank(now);
        int size = now.grid.size();
        int sum = 0;
        int cells = 0;
        while (cells < size && sum < percent * (WHOLE / PERCENT)) {
            sum += ranking.beliefs[cells];
            cells++;
        }
        return cells;
    }

    public long doubtBits() {
        double sum = 0.0;
        int size = now.grid.size();
        for (int cell = 0; cell < size; cell++) {
            double share = (double) now.beliefs[cell] / 1000000.0;
            sum = sum + share * share;
        }
        return bitsOfDouble(1.0 - sum);
    }

    public int shareBits() {
        return bitsOfFloat((float) now.greatestBelief() / 1000000.0f);
    }

    public int promising() {
        int best = 0;
        long greatest = -1;
        for (int direction = 0; direction < DIRECTIONS; direction++) {
            long promise = filter.promiseOf(now, direction);
            if (promise > greatest) {
                greatest = promise;
                best = direction;
            }
        }
        return best;
    }

    public int steps(int what) throws IllegalArgumentException {
        switch (what) {
            case 0:
                return now.trail.total();
            case 1:
                return now.trail.moves;
            case 2:
                return now.trail.sights;
            default:
                throw new IllegalArgumentException("there are no such steps");
        }
    }

    public int step(int index) throws NoSuchElementException {
        int total = now.trail.total();
        if (index < 0 || index >= total || total > MAX_STEPS) {
            throw new NoSuchElementException("there is no such step");
        }
        return now.trail.codes[index];
    }

    public long exact(int cell) throws IndexOutOfBoundsException, IllegalStateException {
        requireCell(cell);
        requireExactWeights();
        rows.weighEnds(now);
        return rows.ends[cell];
    }

    public int likely() throws IllegalStateException {
        requireExactWeights();
        rows.weighEnds(now);
        int size = now.grid.size();
        int best = 0;
        for (int cell = 1; cell < size; cell++) {
            if (rows.ends[cell] > rows.ends[best]) {
                best = cell;
            }
        }
        return best;
    }

    public int path(int index) throws IllegalStateException, IndexOutOfBoundsException {
        requireExactWeights();
        if (index < 0 || index > now.trail.total()) {
            throw new IndexOutOfBoundsException("the path has no such index");
        }
        rows.findBest(now);
        return rows.best[index];
    }

    public long pathWeight() throws IllegalStateException {
        requireExactWeights();
        return rows.findBest(now);
    }

    public int wayCost(int from, int to)
            throws IndexOutOfBoundsException, IllegalStateException, NoSuchElementException {
        requireWay(from, to);
        return ways.costs[from];
    }

    public int wayDirection(int from, int to)
            throws IndexOutOfBoundsException, IllegalStateException, NoSuchElementException {
        requireWay(from, to);
        if (from == to) {
            throw new NoSuchElementException("a way to the cell itself has no direction");
        }
        return ways.firstDirection(now.grid, from);
    }

    public int expectedCost(int to) throws IndexOutOfBoundsException, IllegalStateException {
        requireCell(to);
        requireFree(to);
        ways.findAll(now.grid, to);
        long sum = 0;
        int size = now.grid.size();
        for (int cell = 0; cell < size; cell++) {
            int cost = ways.costs[cell] < NO_WAY ? ways.costs[cell] : COST_WITHOUT_WAY;
            sum += (long) now.beliefs[cell] * cost;
        }
        return (int) (sum / WHOLE);
    }

    public int seed(int z) {
        changes.keep(now);
        int before = now.z;
        now.z = z;
        return before;
    }

    public int drive(int direction) throws IllegalArgumentException {
        requireDirection(direction);
        changes.keep(now);
        now.z = nextNumber(now.z);
        int way = now.tables.wayBelow(drawn(now.z, MOTION_SUM));
        now.roverCell = now.grid.target(now.roverCell, direction, way);
        goOn(direction);
        countHit();
        return now.roverCell;
    }

    public int sense() throws IllegalStateException {
        int mark = now.grid.markOf(now.roverCell);
        int sum = now.tables.sensorSum(mark);
        int z = now.z;
        int seen = mark;
        if (sum > 0) {
            z = nextNumber(z);
            seen = now.tables.seenBelow(mark, drawn(z, sum));
        }
        int outcome = filter.weighSightOrRestart(now, seen);
        if (outcome == UNSEEN) {
            throw new IllegalStateException("the mark cannot be seen");
        }
        changes.keep(now);
        now.z = z;
        takeSight(seen, outcome);
        countHit();
        return seen;
    }

    public int carry(int cell) throws IndexOutOfBoundsException, IllegalStateException {
        requireCell(cell);
        requireFree(cell);
        changes.keep(now);
        int before = now.roverCell;
        now.roverCell = cell;
        return before;
    }

    public int rover() {
        return now.roverCell;
    }

    public int count(int what) throws IllegalArgumentException {
        switch (what) {
            case 0:
                return now.grid.width;
            case 1:
                return now.grid.height;
            case 2:
                return now.grid.freeCells();
            case 3:
                return now.restarts;
            case 4:
                return now.hits;
            case 5:
                return text.length;
            case 6:
                return changes.number;
            default:
                throw new IllegalArgumentException("there is no such count");
        }
    }

    public int undo() throws IllegalStateException {
        if (changes.number == 0) {
            throw new IllegalStateException("there is no change to take back");
        }
        changes.takeBack(now);
        return changes.number;
    }

    public int save() {
        kept.copyFrom(now);
        isKept = true;
        return now.grid.freeCells();
    }

    public int restore() throws IllegalStateException {
        if (!isKept) {
            throw new IllegalStateException("nothing was saved");
        }
        changes.keep(now);
        now.copyFrom(kept);
        return now.grid.freeCells();
    }

    private void forget() {
        filter.evenInto(now.grid, now.beliefs);
        now.trail.clear(ANYWHERE);
    }

    private void goOn(int direction) {
        filter.moveInto(now, direction, now.beliefs);
        now.trail.addMove(direction, now.tables);
    }

    private void takeSight(int mark, int outcome) {
        filter.scaleInto(now.beliefs, now.grid.size());
        if (outcome == RESTARTED) {
            now.restarts++;
            now.trail.clear(ANYWHERE);
        }
        now.trail.addSight(mark, now.grid, now.tables);
    }

    private void countHit() {
        ranking.rank(now);
        if (ranking.order[0] == now.roverCell) {
            now.hits++;
        }
    }

    private void requireCell(int cell) {
        if (!now.grid.has(cell)) {
            throw new IndexOutOfBoundsException("there is no such cell");
        }
    }

    private void requireFree(int cell) {
        if (!now.grid.isFree(cell)) {
            throw new IllegalStateException("the cell is a wall");
        }
    }

    private void requireWay(int from, int to) {
        requireCell(from);
        requireCell(to);
        requireFree(from);
        requireFree(to);
        ways.findAll(now.grid, to);
        if (ways.costs[from] >= NO_WAY) {
            throw new NoSuchElementException("there is no way");
        }
    }

    private void requireExactWeights() {
        if (now.trail.total() > MAX_STEPS) {
            throw new IllegalStateException("there are too many steps for exact weights");
        }
    }

    private static boolean isMark(int mark) {
        return mark >= 0 && mark < MARKS;
    }

    private static void requireMark(int mark) {
        if (!isMark(mark)) {
            throw new IllegalArgumentException("there is no such mark");
        }
    }

    private static void requireDirection(int direction) {
        if (direction < 0 || direction >= DIRECTIONS) {
            throw new IllegalArgumentException("there is no such direction");
        }
    }

    private static void requireMotionNumber(int number) {
        if (number < 0 || number > MOTION_SUM) {
            throw new IllegalArgumentException("the number is not from 0 to 16");
        }
    }

    private static void requirePercent(int number, int least) {
        if (number < least || number > PERCENT) {
            throw new IllegalArgumentException("the number is out of range");
        }
    }

    private static int nextNumber(int z) {
        return z * 1103515245 + 12345;
    }

    private static int drawn(int z, int below) {
        return below > 0 ? (z >>> 16) % below : 0;
    }

    // The bits are put together by arithmetic, because LANGUAGE.md leaves no call that reads them;
    // doubling and taking 1 away are exact. A doubt is 0 or a normal number below 1.
    private static long bitsOfDouble(double value) {
        if (value <= 0.0) {
            return 0;
        }
        double significand = value;
        long exponent = 1023;
        while (significand < 1.0 && exponent > 1) {
            significand = significand * 2.0;
            exponent--;
        }
        return (exponent << 52) | (long) ((significand - 1.0) * 4503599627370496.0);
    }

    // As above; a share is a normal number up to 1.
    private static int bitsOfFloat(float value) {
        if (value <= 0.0f) {
            return 0;
        }
        float significand = value;
        int exponent = 127;
        while (significand < 1.0f && exponent > 1) {
            significand = significand * 2.0f;
            exponent--;
        }
        return (exponent << 23) | (int) ((significand - 1.0f) * 8388608.0f);
    }

    /** The cells; what stands in the arrays beyond the size is never read. */
    private static final class Grid {
        private static final int WALL = -1;

        private int width = 4;
        private int height = 3;
        private final int[] marks = new int[MAX_CELLS];
        private final int[] costs = new int[MAX_CELLS];
        private final int[] neighbors = new int[MAX_CELLS * DIRECTIONS];

        Grid() {
            for (int cell = 0; cell < MAX_CELLS; cell++) {
                costs[cell] = 1;
            }
            connect();
        }

        void copyFrom(Grid other) {
            width = other.width;
            height = other.height;
            System.arraycopy(other.marks, 0, marks, 0, MAX_CELLS);
            System.arraycopy(other.costs, 0, costs, 0, MAX_CELLS);
            System.arraycopy(other.neighbors, 0, neighbors, 0, MAX_CELLS * DIRECTIONS);
        }

        int size() {
            return width * height;
        }

        boolean has(int cell) {
            return cell >= 0 && cell < width * height;
        }

        boolean isFree(int cell) {
            return cell >= 0 && cell < width * height && marks[cell] != WALL;
        }

        int markOf(int cell) {
            return isFree(cell) ? marks[cell] : 0;
        }

        int freeCells() {
            int size = size();
            int free = 0;
            for (int cell = 0; cell < size; cell++) {
                if (isFree(cell)) {
                    free++;
                }
            }
            return free;
        }

        int lowestFree() {
            int size = size();
            for (int cell = 0; cell < size; cell++) {
                if (isFree(cell)) {
                    return cell;
                }
            }
            return 0;
        }

        /** The neighbors are out of date until connect is called. */
        void build(int cell, int markOrWall) {
            marks[cell] = markOrWall;
            costs[cell] = 1;
        }

        void connect() {
            for (int row = 0; row < height; row++) {
                for (int column = 0; column < width; column++) {
                    int cell = row * width + column;
                    join(cell, 0, cell - width);
                    join(cell, 1, column < width - 1 ? cell + 1 : cell);
                    join(cell, 2, cell + width);
                    join(cell, 3, column > 0 ? cell - 1 : cell);
                }
            }
        }

        private void join(int cell, int direction, int next) {
            neighbors[cell * DIRECTIONS + direction] = isFree(cell) && isFree(next) ? next : cell;
        }

        int neighbor(int cell, int direction) {
            return neighbors[cell * DIRECTIONS + direction];
        }

        /** Where one of the four cases of the motion table leads: ahead, left, right, stay. */
        int target(int cell, int direction, int way) {
            switch (way) {
                case 0:
                    return neighbor(cell, direction);
                case 1:
                    return neighbor(cell, (direction + 3) % DIRECTIONS);
                case 2:
                    return neighbor(cell, (direction + 1) % DIRECTIONS);
                default:
                    return cell;
            }
        }

        int exits(int cell) {
            int exits = 0;
            for (int direction = 0; direction < DIRECTIONS; direction++) {
                if (neighbor(cell, direction) != cell) {
                    exits++;
                }
            }
            return exits;
        }
    }

    /** The numbers of moving, seeing and carrying away. */
    private static final class Tables {
        private final int[] motions = new int[WAYS_TO_GO];
        private final int[] sensors = new int[MARKS * MARKS];
        private int rate = 0;
        private int limit = 0;

        Tables() {
            motions[0] = MOTION_SUM;
            for (int mark = 0; mark < MARKS; mark++) {
                sensors[mark * MARKS + mark] = PERCENT;
            }
        }

        void copyFrom(Tables other) {
            System.arraycopy(other.motions, 0, motions, 0, WAYS_TO_GO);
            System.arraycopy(other.sensors, 0, sensors, 0, MARKS * MARKS);
            rate = other.rate;
            limit = other.limit;
        }

        int wayBelow(int drawn) {
            int sum = 0;
            for (int way = 0; way < WAYS_TO_GO - 1; way++) {
                sum += motions[way];
                if (sum > drawn) {
                    return way;
                }
            }
            return WAYS_TO_GO - 1;
        }

        int sensorSum(int mark) {
            int sum = 0;
            for (int seen = 0; seen < MARKS; seen++) {
                sum += sensors[mark * MARKS + seen];
            }
            return sum;
        }

        int seenBelow(int mark, int drawn) {
            int sum = 0;
            for (int seen = 0; seen < MARKS; seen++) {
                sum += sensors[mark * MARKS + seen];
                if (sum > drawn) {
                    return seen;
                }
            }
            return mark;
        }
    }

    /** The steps; the first eight with the numbers that held then, as tables and marks may change later. */
    private static final class Trail {
        private int start = ANYWHERE;
        private int moves = 0;
        private int sights = 0;
        private final int[] codes = new int[MAX_STEPS];
        private final int[] numbers = new int[MAX_STEPS * MAX_CELLS];

        void copyFrom(Trail other) {
            start = other.start;
            moves = other.moves;
            sights = other.sights;
            System.arraycopy(other.codes, 0, codes, 0, MAX_STEPS);
            System.arraycopy(other.numbers, 0, numbers, 0, MAX_STEPS * MAX_CELLS);
        }

        int total() {
            return moves + sights;
        }

        void clear(int cell) {
            start = cell;
            moves = 0;
            sights = 0;
        }

        void addMove(int direction, Tables tables) {
            int index = total();
            if (index < MAX_STEPS) {
                codes[index] = direction;
                System.arraycopy(tables.motions, 0, numbers, index * MAX_CELLS, WAYS_TO_GO);
            }
            moves++;
        }

        void addSight(int mark, Grid grid, Tables tables) {
            int index = total();
            if (index < MAX_STEPS) {
                codes[index] = SIGHT + mark;
                int size = grid.size();
                for (int cell = 0; cell < size; cell++) {
                    numbers[index * MAX_CELLS + cell] = tables.sensors[grid.markOf(cell) * MARKS + mark];
                }
            }
            sights++;
        }

        boolean isMove(int index) {
            return codes[index] < SIGHT;
        }

        /** The number of one of the four cases of a move, or that of a cell for a seen mark. */
        int number(int index, int wayOrCell) {
            return numbers[index * MAX_CELLS + wayOrCell];
        }

        /** What a row is multiplied with if this step leads it from the one cell to the other. */
        long factor(Grid grid, int index, int from, int to) {
            if (!isMove(index)) {
                return from == to ? number(index, from) : 0;
            }
            long sum = 0;
            for (int way = 0; way < WAYS_TO_GO; way++) {
                if (grid.target(from, codes[index], way) == to) {
                    sum += number(index, way);
                }
            }
            return sum;
        }
    }

    /** All that undo takes back and save saves. */
    private static final class State {
        private final Grid grid = new Grid();
        private final Tables tables = new Tables();
        private final Trail trail = new Trail();
        private final int[] beliefs = new int[MAX_CELLS];
        private int roverCell = 0;
        private int z = 1;
        private int restarts = 0;
        private int hits = 0;

        void copyFrom(State other) {
            grid.copyFrom(other.grid);
            tables.copyFrom(other.tables);
            trail.copyFrom(other.trail);
            System.arraycopy(other.beliefs, 0, beliefs, 0, MAX_CELLS);
            roverCell = other.roverCell;
            z = other.z;
            restarts = other.restarts;
            hits = other.hits;
        }

        int greatestBelief() {
            int size = grid.size();
            int greatest = 0;
            for (int cell = 0; cell < size; cell++) {
                greatest = Math.max(greatest, beliefs[cell]);
            }
            return greatest;
        }
    }

    /** The states before the latest changes, in a ring. */
    private static final class Changes {
        private final State[] states = new State[MAX_CHANGES];
        private int first = 0;
        private int number = 0;

        Changes() {
            for (int index = 0; index < MAX_CHANGES; index++) {
                states[index] = new State();
            }
        }

        void keep(State state) {
            if (number == MAX_CHANGES) {
                first = (first + 1) % MAX_CHANGES;
                number--;
            }
            State free = states[(first + number) % MAX_CHANGES];
            if (free != null) {
                free.copyFrom(state);
                number++;
            }
        }

        void takeBack(State state) {
            if (number == 0) {
                return;
            }
            number--;
            State before = states[(first + number) % MAX_CHANGES];
            if (before != null) {
                state.copyFrom(before);
            }
        }
    }

    /** The buffer, and how a text and a grid become each other. */
    private static final class MapText {
        private static final int NO_CELL = -2;

        private final char[] signs = new char[MAX_TEXT];
        private int length = 0;

        static boolean arePrintable(int packed) {
            for (int shift = 24; shift >= 0; shift -= 8) {
                int sign = (packed >>> shift) & 255;
                if (sign != 0 && (sign < 33 || sign > 126)) {
                    return false;
                }
            }
            return true;
        }

        static int signsIn(int packed) {
            int number = 0;
            for (int shift = 24; shift >= 0; shift -= 8) {
                if (((packed >>> shift) & 255) != 0) {
                    number++;
                }
            }
            return number;
        }

        void add(int packed) {
            for (int shift = 24; shift >= 0; shift -= 8) {
                int sign = (packed >>> shift) & 255;
                if (sign != 0 && length < MAX_TEXT) {
                    signs[length] = (char) sign;
                    length++;
                }
            }
        }

        int findError() {
            int width = 0;
            int height = 1;
            int cells = 0;
            boolean anyFree = false;
            for (int index = 0; index < length; index++) {
                char sign = signs[index];
                if (sign == '/') {
                    if (!isFullRow(cells, width) || height == MAX_SIDE) {
                        return index;
                    }
                    width = cells;
                    height++;
                    cells = 0;
                } else {
                    if (markOfSign(sign) == NO_CELL || cells == (width == 0 ? MAX_SIDE : width)) {
                        return index;
                    }
                    anyFree = anyFree || sign != '#';
                    cells++;
                }
            }
            return anyFree && isFullRow(cells, width) ? -1 : length;
        }

        /** A width of 0 stands for that of a first row, which may end behind any of its cells. */
        private static boolean isFullRow(int cells, int width) {
            return width == 0 ? cells > 0 : cells == width;
        }

        private static int markOfSign(char sign) {
            if (sign == '#') {
                return Grid.WALL;
            }
            if (sign == '.') {
                return 0;
            }
            return sign >= 'a' && sign <= 'd' ? sign - 'a' : NO_CELL;
        }

        /** Only for a text without an error. */
        void writeTo(Grid grid) {
            int height = 1;
            int width = 0;
            int cells = 0;
            for (int index = 0; index < length && cells < MAX_CELLS; index++) {
                if (signs[index] == '/') {
                    height++;
                } else {
                    grid.build(cells, markOfSign(signs[index]));
                    cells++;
                    width += height == 1 ? 1 : 0;
                }
            }
            grid.height = height;
            grid.width = width;
            grid.connect();
        }

        static int signAt(Grid grid, int index) {
            int row = 0;
            int column = index;
            while (column > grid.width && row < grid.height) {
                column -= grid.width + 1;
                row++;
            }
            if (column == grid.width) {
                return '/';
            }
            int cell = row * grid.width + column;
            if (!grid.isFree(cell)) {
                return '#';
            }
            int mark = grid.markOf(cell);
            return mark == 0 ? '.' : 'a' + mark;
        }
    }

    /** Finds weights and scales them; the weights of the latest finding stay until the next one. */
    private static final class Filter {
        private final long[] weights = new long[MAX_CELLS];
        private final long[] remainders = new long[MAX_CELLS];
        private final int[] trial = new int[MAX_CELLS];

        void evenInto(Grid grid, int[] beliefs) {
            int size = grid.size();
            for (int cell = 0; cell < size; cell++) {
                weights[cell] = grid.isFree(cell) ? 1 : 0;
            }
            scaleInto(beliefs, size);
        }

        void moveInto(State state, int direction, int[] beliefs) {
            weighMove(state, direction);
            carryAway(state);
            scaleInto(beliefs, state.grid.size());
        }

        private void weighMove(State state, int direction) {
            int size = state.grid.size();
            for (int cell = 0; cell < size; cell++) {
                weights[cell] = 0;
            }
            for (int cell = 0; cell < size; cell++) {
                long belief = state.beliefs[cell];
                for (int way = 0; belief > 0 && way < WAYS_TO_GO; way++) {
                    weights[state.grid.target(cell, direction, way)] += belief * state.tables.motions[way];
                }
            }
        }

        private void carryAway(State state) {
            int size = state.grid.size();
            long free = state.grid.freeCells();
            long rate = state.tables.rate;
            for (int cell = 0; cell < size; cell++) {
                if (state.grid.isFree(cell)) {
                    weights[cell] = (PERCENT - rate) * free * weights[cell] + rate * MOTION_SUM * WHOLE;
                }
            }
        }

        private long weighSight(State state, int[] beliefs, int seen) {
            int size = state.grid.size();
            long sum = 0;
            for (int cell = 0; cell < size; cell++) {
                int number = state.tables.sensors[state.grid.markOf(cell) * MARKS + seen];
                weights[cell] = state.grid.isFree(cell) ? (long) beliefs[cell] * number : 0;
                sum += weights[cell];
            }
            return sum;
        }

        int weighSightOrRestart(State state, int seen) {
            long sum = weighSight(state, state.beliefs, seen);
            if (sum > 0 && sum >= (long) WHOLE * state.tables.limit) {
                return SEEN;
            }
            evenInto(state.grid, trial);
            return weighSight(state, trial, seen) > 0 ? RESTARTED : UNSEEN;
        }

        long promiseOf(State state, int direction) {
            moveInto(state, direction, trial);
            int size = state.grid.size();
            long promise = 0;
            for (int mark = 0; mark < MARKS; mark++) {
                weighSight(state, trial, mark);
                long greatest = 0;
                for (int cell = 0; cell < size; cell++) {
                    greatest = Math.max(greatest, weights[cell]);
                }
                promise += greatest;
            }
            return promise;
        }

        void scaleInto(int[] beliefs, int size) {
            long sum = 0;
            for (int cell = 0; cell < size; cell++) {
                sum += weights[cell];
            }
            if (sum <= 0) {
                return;
            }
            int given = 0;
            for (int cell = 0; cell < size; cell++) {
                long scaled = weights[cell] * WHOLE;
                beliefs[cell] = (int) (scaled / sum);
                remainders[cell] = scaled % sum;
                given += beliefs[cell];
            }
            for (int more = 0; more < size && given < WHOLE; more++) {
                int cell = greatestRemainder(size);
                beliefs[cell]++;
                remainders[cell] = -1;
                given++;
            }
        }

        private int greatestRemainder(int size) {
            int best = 0;
            for (int cell = 1; cell < size; cell++) {
                if (remainders[cell] > remainders[best]) {
                    best = cell;
                }
            }
            return best;
        }
    }

    /** The cells by descending beliefs. */
    private static final class Ranking {
        private final int[] order = new int[MAX_CELLS];
        private final int[] beliefs = new int[MAX_CELLS];

        void rank(State state) {
            int size = state.grid.size();
            for (int cell = 0; cell < size; cell++) {
                int belief = state.beliefs[cell];
                int place = cell;
                while (place > 0 && beliefs[place - 1] < belief) {
                    beliefs[place] = beliefs[place - 1];
                    order[place] = order[place - 1];
                    place--;
                }
                beliefs[place] = belief;
                order[place] = cell;
            }
        }
    }

    /** The exact weights of rows of cells; only for at most eight steps. */
    private static final class Rows {
        private final long[] ends = new long[MAX_CELLS];
        private final long[] next = new long[MAX_CELLS];
        private final long[] rests = new long[(MAX_STEPS + 1) * MAX_CELLS];
        private final int[] best = new int[MAX_STEPS + 1];

        void weighEnds(State state) {
            int size = state.grid.size();
            int steps = Math.min(state.trail.total(), MAX_STEPS);
            for (int cell = 0; cell < size; cell++) {
                ends[cell] = mayBegin(state, cell) ? 1 : 0;
            }
            for (int index = 0; index < steps; index++) {
                if (state.trail.isMove(index)) {
                    lead(state, index, size);
                } else {
                    for (int cell = 0; cell < size; cell++) {
                        ends[cell] = ends[cell] * state.trail.number(index, cell);
                    }
                }
            }
        }

        private static boolean mayBegin(State state, int cell) {
            int start = state.trail.start;
            return state.grid.isFree(cell) && (start == ANYWHERE || start == cell);
        }

        private void lead(State state, int index, int size) {
            for (int cell = 0; cell < size; cell++) {
                next[cell] = 0;
            }
            int direction = state.trail.codes[index];
            for (int cell = 0; cell < size; cell++) {
                for (int way = 0; ends[cell] > 0 && way < WAYS_TO_GO; way++) {
                    next[state.grid.target(cell, direction, way)] += ends[cell] * state.trail.number(index, way);
                }
            }
            System.arraycopy(next, 0, ends, 0, size);
        }

        /** Finds the most likely path and returns its weight. */
        long findBest(State state) {
            int steps = Math.min(state.trail.total(), MAX_STEPS);
            weighRests(state, steps);
            best[0] = bestBegin(state);
            long weight = rests[best[0]];
            for (int index = 0; index < steps; index++) {
                // If every row weighs nothing, no rest of a row may draw the path to itself.
                best[index + 1] = weight == 0 ? state.grid.lowestFree() : follow(state, index, best[index]);
            }
            return weight;
        }

        /** For each cell before each step: the greatest weight that the rest of a row from there can have. */
        private void weighRests(State state, int steps) {
            int size = state.grid.size();
            for (int cell = 0; cell < size; cell++) {
                rests[steps * MAX_CELLS + cell] = state.grid.isFree(cell) ? 1 : 0;
            }
            for (int index = steps - 1; index >= 0; index--) {
                for (int cell = 0; cell < size; cell++) {
                    long greatest = 0;
                    for (int way = 0; way < WAYS_TO_GO; way++) {
                        greatest = Math.max(greatest, restOver(state, index, cell, targetOf(state, index, cell, way)));
                    }
                    rests[index * MAX_CELLS + cell] = greatest;
                }
            }
        }

        private static int targetOf(State state, int index, int cell, int way) {
            return state.trail.isMove(index) ? state.grid.target(cell, state.trail.codes[index], way) : cell;
        }

        private long restOver(State state, int index, int from, int to) {
            return state.trail.factor(state.grid, index, from, to) * rests[(index + 1) * MAX_CELLS + to];
        }

        private int bestBegin(State state) {
            int size = state.grid.size();
            int begin = -1;
            for (int cell = 0; cell < size; cell++) {
                if (mayBegin(state, cell) && (begin < 0 || rests[cell] > rests[begin])) {
                    begin = cell;
                }
            }
            return Math.max(begin, 0);
        }

        private int follow(State state, int index, int from) {
            int size = state.grid.size();
            long greatest = rests[index * MAX_CELLS + from];
            for (int to = 0; to < size; to++) {
                if (restOver(state, index, from, to) == greatest) {
                    return to;
                }
            }
            return from;
        }
    }

    /** The least costs of the ways from all cells to one. */
    private static final class Ways {
        private final int[] costs = new int[MAX_CELLS];

        void findAll(Grid grid, int to) {
            int size = grid.size();
            for (int cell = 0; cell < size; cell++) {
                costs[cell] = cell == to ? 0 : NO_WAY;
            }
            boolean better = true;
            for (int round = 0; better && round < size; round++) {
                better = false;
                for (int cell = 0; cell < size; cell++) {
                    if (grid.isFree(cell) && improve(grid, cell)) {
                        better = true;
                    }
                }
            }
        }

        private boolean improve(Grid grid, int cell) {
            boolean better = false;
            for (int direction = 0; direction < DIRECTIONS; direction++) {
                int over = costOver(grid, cell, direction);
                if (over < costs[cell]) {
                    costs[cell] = over;
                    better = true;
                }
            }
            return better;
        }

        private int costOver(Grid grid, int cell, int direction) {
            int next = grid.neighbor(cell, direction);
            return costs[next] < NO_WAY ? costs[next] + grid.costs[next] : NO_WAY;
        }

        int firstDirection(Grid grid, int from) {
            for (int direction = 0; direction < DIRECTIONS; direction++) {
                if (costOver(grid, from, direction) == costs[from]) {
                    return direction;
                }
            }
            return 0;
        }
    }
}
