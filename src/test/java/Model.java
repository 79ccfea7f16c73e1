import java.math.BigInteger;
import java.util.ArrayDeque;
import java.util.ArrayList;
import java.util.Arrays;
import java.util.Collections;
import java.util.Deque;
import java.util.List;
import java.util.NoSuchElementException;

/**
 * The document once more, written another way: whole matrices, big numbers, lists of rows and copies of everything,
 * so that a slip in the class is not made here, too.
 */
final class Model {
    /** A step with the factor for each pair of cells, as it was at that time. */
    record Step(int code, int[][] factor) {
    }

    record Row(BigInteger weight, List<Integer> cells) {
    }

    static final class State {
        int w = 4;
        int h = 3;
        Integer[] mark = new Integer[12];
        int[] cost = new int[12];
        int[] belief;
        int[] motion = {16, 0, 0, 0};
        int[][] sensor = new int[4][4];
        int rate = 0;
        int limit = 0;
        int rover = 0;
        int z = 1;
        int restarts = 0;
        int hits = 0;
        int start = -1;
        List<Step> steps = new ArrayList<>();

        State copy() {
            State s = new State();
            s.w = w;
            s.h = h;
            s.mark = mark.clone();
            s.cost = cost.clone();
            s.belief = belief.clone();
            s.motion = motion.clone();
            s.sensor = new int[][] {sensor[0].clone(), sensor[1].clone(), sensor[2].clone(), sensor[3].clone()};
            s.rate = rate;
            s.limit = limit;
            s.rover = rover;
            s.z = z;
            s.restarts = restarts;
            s.hits = hits;
            s.start = start;
            s.steps = new ArrayList<>(steps);
            return s;
        }
    }

    private static final BigInteger MILLION = BigInteger.valueOf(1000000);

    State s = new State();
    private State saved = null;
    private final Deque<State> past = new ArrayDeque<>();
    private String buffer = "";
    private int errorPosition = -1;

    Model() {
        Arrays.fill(s.mark, 0);
        Arrays.fill(s.cost, 1);
        for (int i = 0; i < 4; i++) {
            s.sensor[i][i] = 100;
        }
        s.belief = even();
    }

    private int cells() {
        return s.w * s.h;
    }

    private boolean free(int c) {
        return s.mark[c] != null;
    }

    private int freeCount() {
        int n = 0;
        for (Integer m : s.mark) {
            n += m == null ? 0 : 1;
        }
        return n;
    }

    private void change() {
        past.addLast(s.copy());
        if (past.size() > 6) {
            past.removeFirst();
        }
    }

    private void cellIn(int c) {
        if (c < 0 || c >= cells()) {
            throw new IndexOutOfBoundsException();
        }
    }

    private void freeIn(int c) {
        if (!free(c)) {
            throw new IllegalStateException();
        }
    }

    private static void in(int x, int low, int high) {
        if (x < low || x > high) {
            throw new IllegalArgumentException();
        }
    }

    private int[] scale(BigInteger[] weights) {
        BigInteger sum = BigInteger.ZERO;
        for (BigInteger x : weights) {
            sum = sum.add(x);
        }
        int[] result = new int[weights.length];
        BigInteger[] rest = new BigInteger[weights.length];
        List<Integer> order = new ArrayList<>();
        int total = 0;
        for (int c = 0; c < weights.length; c++) {
            BigInteger[] parts = weights[c].multiply(MILLION).divideAndRemainder(sum);
            result[c] = parts[0].intValueExact();
            rest[c] = parts[1];
            total += result[c];
            order.add(c);
        }
        order.sort((a, b) -> rest[b].compareTo(rest[a]));
        for (int k = 0; total < 1000000; k++, total++) {
            result[order.get(k)]++;
        }
        return result;
    }

    private int[] even() {
        BigInteger[] ones = new BigInteger[cells()];
        for (int c = 0; c < ones.length; c++) {
            ones[c] = free(c) ? BigInteger.ONE : BigInteger.ZERO;
        }
        return scale(ones);
    }

    private int next(int c, int d) {
        int x = c % s.w + (d == 1 ? 1 : d == 3 ? -1 : 0);
        int y = c / s.w + (d == 2 ? 1 : d == 0 ? -1 : 0);
        if (x < 0 || y < 0 || x >= s.w || y >= s.h) {
            return c;
        }
        return free(y * s.w + x) ? y * s.w + x : c;
    }

    private int[][] motions(int d) {
        int[][] m = new int[cells()][cells()];
        for (int c = 0; c < cells(); c++) {
            if (free(c)) {
                m[c][next(c, d)] += s.motion[0];
                m[c][next(c, (d + 3) % 4)] += s.motion[1];
                m[c][next(c, (d + 1) % 4)] += s.motion[2];
                m[c][c] += s.motion[3];
            }
        }
        return m;
    }

    private int[] moved(int d) {
        int[][] m = motions(d);
        BigInteger[] weights = new BigInteger[cells()];
        for (int to = 0; to < cells(); to++) {
            long w = 0;
            for (int from = 0; from < cells(); from++) {
                w += (long) s.belief[from] * m[from][to];
            }
            BigInteger kept = BigInteger.valueOf(w).multiply(BigInteger.valueOf((100L - s.rate) * freeCount()));
            weights[to] = free(to) ? kept.add(BigInteger.valueOf(s.rate * 16000000L)) : BigInteger.ZERO;
        }
        return scale(weights);
    }

    private BigInteger[] sights(int[] belief, int seen) {
        BigInteger[] weights = new BigInteger[cells()];
        for (int c = 0; c < cells(); c++) {
            weights[c] = BigInteger.valueOf(free(c) ? (long) belief[c] * s.sensor[s.mark[c]][seen] : 0);
        }
        return weights;
    }

    private static long sum(BigInteger[] weights) {
        return Arrays.stream(weights).reduce(BigInteger.ZERO, BigInteger::add).longValueExact();
    }

    private void stepMove(int d) {
        s.belief = moved(d);
        s.steps.add(new Step(d, motions(d)));
    }

    /** Sees with z set to a number; nothing is changed if the mark cannot be seen. */
    private boolean stepSee(int seen, int z) {
        BigInteger[] weights = sights(s.belief, seen);
        boolean restart = sum(weights) == 0 || sum(weights) < 1000000L * s.limit;
        if (restart) {
            weights = sights(even(), seen);
            if (sum(weights) == 0) {
                throw new IllegalStateException();
            }
        }
        change();
        s.z = z;
        s.belief = scale(weights);
        if (restart) {
            s.restarts++;
            s.steps.clear();
            s.start = -1;
        }
        int[][] factor = new int[cells()][cells()];
        for (int c = 0; c < cells(); c++) {
            factor[c][c] = free(c) ? s.sensor[s.mark[c]][seen] : 0;
        }
        s.steps.add(new Step(10 + seen, factor));
        return restart;
    }

    private void reset() {
        s.belief = even();
        s.steps.clear();
        s.start = -1;
    }

    int append(int packed) {
        StringBuilder more = new StringBuilder();
        for (byte b : new byte[] {(byte) (packed >> 24), (byte) (packed >> 16), (byte) (packed >> 8), (byte) packed}) {
            if (b != 0) {
                in(b, 33, 126);
                more.append((char) b);
            }
        }
        if (buffer.length() + more.length() > 45) {
            throw new IllegalStateException();
        }
        buffer += more;
        return buffer.length();
    }

    private static boolean canGoOn(String prefix) {
        String[] rows = prefix.split("/", -1);
        for (int i = 0; i < rows.length; i++) {
            boolean last = i == rows.length - 1;
            if (!rows[i].matches("[#.abcd]{0,6}")) {
                return false;
            }
            if (!last && (rows[i].isEmpty() || rows[i].length() != rows[0].length())) {
                return false;
            }
            if (last && i > 0 && rows[i].length() > rows[0].length()) {
                return false;
            }
        }
        return rows.length <= 6;
    }

    static int errorOf(String text) {
        for (int i = 1; i <= text.length(); i++) {
            if (!canGoOn(text.substring(0, i))) {
                return i - 1;
            }
        }
        String[] rows = text.split("/", -1);
        boolean whole = !rows[0].isEmpty() && rows[rows.length - 1].length() == rows[0].length();
        return whole && text.matches(".*[.abcd].*") ? -1 : text.length();
    }

    int load() {
        String text = buffer;
        buffer = "";
        errorPosition = errorOf(text);
        if (errorPosition != -1) {
            throw new IllegalArgumentException();
        }
        change();
        String[] rows = text.split("/");
        s.h = rows.length;
        s.w = rows[0].length();
        s.mark = new Integer[cells()];
        s.cost = new int[cells()];
        Arrays.fill(s.cost, 1);
        String all = String.join("", rows);
        for (int c = 0; c < cells(); c++) {
            s.mark[c] = all.charAt(c) == '#' ? null : (Integer) Math.max(0, "abcd".indexOf(all.charAt(c)));
        }
        s.rover = 0;
        while (!free(s.rover)) {
            s.rover++;
        }
        reset();
        return freeCount();
    }

    int errorPosition() {
        return errorPosition;
    }

    boolean setWall(int c, boolean wall) {
        cellIn(c);
        boolean was = !free(c);
        if (wall && !was && (freeCount() == 1 || s.rover == c)) {
            throw new IllegalStateException();
        }
        change();
        if (was != wall) {
            s.mark[c] = wall ? null : (Integer) 0;
            s.cost[c] = 1;
            reset();
        }
        return was;
    }

    int setMark(int c, int mark) {
        cellIn(c);
        in(mark, 0, 3);
        freeIn(c);
        change();
        int was = s.mark[c];
        s.mark[c] = mark;
        return was;
    }

    int setCost(int c, int cost) {
        cellIn(c);
        in(cost, 1, 9);
        freeIn(c);
        change();
        int was = s.cost[c];
        s.cost[c] = cost;
        return was;
    }

    int setMotion(int a, int l, int r) {
        in(a, 0, 16);
        in(l, 0, 16);
        in(r, 0, 16);
        in(a + l + r, 0, 16);
        change();
        s.motion = new int[] {a, l, r, 16 - a - l - r};
        return s.motion[3];
    }

    int setSensor(int mark, int seen, int weight) {
        if (mark < 0 || mark > 3 || seen < 0 || seen > 3) {
            throw new IndexOutOfBoundsException();
        }
        in(weight, 0, 100);
        change();
        int was = s.sensor[mark][seen];
        s.sensor[mark][seen] = weight;
        return was;
    }

    int setRate(int rate) {
        in(rate, 0, 100);
        change();
        int was = s.rate;
        s.rate = rate;
        return was;
    }

    int setLimit(int limit) {
        in(limit, 0, 100);
        change();
        int was = s.limit;
        s.limit = limit;
        return was;
    }

    int cell(int c, int what) {
        cellIn(c);
        in(what, 0, 3);
        if (!free(c)) {
            return what == 0 ? 1 : 0;
        }
        int ways = 0;
        for (int d = 0; d < 4; d++) {
            ways += next(c, d) == c ? 0 : 1;
        }
        return new int[] {0, s.mark[c], s.cost[c], ways}[what];
    }

    int motion(int from, int to, int d) {
        cellIn(from);
        cellIn(to);
        in(d, 0, 3);
        return motions(d)[from][to];
    }

    int map(int index) {
        List<String> rows = new ArrayList<>();
        for (int y = 0; y < s.h; y++) {
            StringBuilder row = new StringBuilder();
            for (int x = 0; x < s.w; x++) {
                Integer m = s.mark[y * s.w + x];
                row.append(m == null ? '#' : ".bcd".charAt(m));
            }
            rows.add(row.toString());
        }
        String text = String.join("/", rows);
        if (index == -1) {
            return text.length();
        }
        if (index < 0 || index >= text.length()) {
            throw new IndexOutOfBoundsException();
        }
        return text.charAt(index);
    }

    int spread() {
        change();
        reset();
        return freeCount();
    }

    int place(int c) {
        cellIn(c);
        freeIn(c);
        change();
        int was = s.belief[c];
        s.belief = new int[cells()];
        s.belief[c] = 1000000;
        s.steps.clear();
        s.start = c;
        return was;
    }

    int move(int d) {
        in(d, 0, 3);
        change();
        stepMove(d);
        return Arrays.stream(s.belief).max().getAsInt();
    }

    boolean see(int mark) {
        in(mark, 0, 3);
        return stepSee(mark, s.z);
    }

    int belief(int c) {
        cellIn(c);
        return s.belief[c];
    }

    private List<Integer> ranking() {
        List<Integer> order = new ArrayList<>();
        for (int c = 0; c < cells(); c++) {
            order.add(c);
        }
        order.sort((a, b) -> s.belief[b] - s.belief[a]);
        return order;
    }

    int ranked(int rank) {
        cellIn(rank);
        return ranking().get(rank);
    }

    int core(int percent) {
        in(percent, 1, 100);
        int n = 0;
        long sum = 0;
        for (int c : ranking()) {
            if (sum * 100 >= percent * 1000000L) {
                break;
            }
            sum += s.belief[c];
            n++;
        }
        return n;
    }

    long doubtBits() {
        double sum = 0.0;
        for (int b : s.belief) {
            sum += (b / 1000000.0) * (b / 1000000.0);
        }
        return Double.doubleToLongBits(1.0 - sum);
    }

    int shareBits() {
        return Float.floatToIntBits(Arrays.stream(s.belief).max().getAsInt() / 1000000.0f);
    }

    int promising() {
        long[] promise = new long[4];
        for (int d = 0; d < 4; d++) {
            int[] after = moved(d);
            for (int mark = 0; mark < 4; mark++) {
                promise[d] += Collections.max(Arrays.asList(sights(after, mark))).longValueExact();
            }
        }
        int best = 0;
        for (int d = 1; d < 4; d++) {
            best = promise[d] > promise[best] ? d : best;
        }
        return best;
    }

    int steps(int what) {
        in(what, 0, 2);
        int moves = (int) s.steps.stream().filter(step -> step.code() < 10).count();
        return new int[] {s.steps.size(), moves, s.steps.size() - moves}[what];
    }

    int step(int index) {
        if (s.steps.size() > 8 || index < 0 || index >= s.steps.size()) {
            throw new NoSuchElementException();
        }
        return s.steps.get(index).code();
    }

    private BigInteger[] ends() {
        BigInteger[] v = new BigInteger[cells()];
        for (int c = 0; c < cells(); c++) {
            v[c] = free(c) && (s.start == -1 || s.start == c) ? BigInteger.ONE : BigInteger.ZERO;
        }
        for (Step step : s.steps) {
            BigInteger[] n = new BigInteger[cells()];
            Arrays.fill(n, BigInteger.ZERO);
            for (int from = 0; from < cells(); from++) {
                for (int to = 0; to < cells(); to++) {
                    n[to] = n[to].add(v[from].multiply(BigInteger.valueOf(step.factor()[from][to])));
                }
            }
            v = n;
        }
        return v;
    }

    private void exactIn() {
        if (s.steps.size() > 8) {
            throw new IllegalStateException();
        }
    }

    long exact(int c) {
        cellIn(c);
        exactIn();
        return ends()[c].longValueExact();
    }

    int likely() {
        exactIn();
        List<BigInteger> ends = Arrays.asList(ends());
        return ends.indexOf(Collections.max(ends));
    }

    /** The best row of each beginning; a row of weight 0 begins nothing better than another of weight 0. */
    private Row bestRow() {
        int lowest = 0;
        while (!free(lowest)) {
            lowest++;
        }
        Row[] rows = new Row[cells()];
        for (int c = 0; c < cells(); c++) {
            rows[c] = free(c) ? new Row(BigInteger.ONE, List.of(c)) : null;
        }
        for (int k = s.steps.size() - 1; k >= 0; k--) {
            Row[] longer = new Row[cells()];
            for (int c = 0; c < cells(); c++) {
                for (int to = 0; free(c) && to < cells(); to++) {
                    if (rows[to] != null) {
                        BigInteger factor = BigInteger.valueOf(s.steps.get(k).factor()[c][to]);
                        List<Integer> row = new ArrayList<>(List.of(c));
                        row.addAll(rows[to].cells());
                        longer[c] = better(longer[c], new Row(rows[to].weight().multiply(factor), row));
                    }
                }
                if (longer[c] != null && longer[c].weight().signum() == 0) {
                    List<Integer> row = new ArrayList<>(Collections.nCopies(s.steps.size() - k + 1, lowest));
                    row.set(0, c);
                    longer[c] = new Row(BigInteger.ZERO, row);
                }
            }
            rows = longer;
        }
        Row best = null;
        for (int c = 0; c < cells(); c++) {
            if (rows[c] != null && (s.start == -1 || s.start == c)) {
                best = better(best, rows[c]);
            }
        }
        return best;
    }

    private static Row better(Row a, Row b) {
        if (a == null || b.weight().compareTo(a.weight()) > 0) {
            return b;
        }
        if (b.weight().compareTo(a.weight()) < 0) {
            return a;
        }
        for (int i = 0; i < a.cells().size(); i++) {
            int difference = a.cells().get(i) - b.cells().get(i);
            if (difference != 0) {
                return difference < 0 ? a : b;
            }
        }
        return a;
    }

    int path(int index) {
        exactIn();
        if (index < 0 || index > s.steps.size()) {
            throw new IndexOutOfBoundsException();
        }
        return bestRow().cells().get(index);
    }

    long pathWeight() {
        exactIn();
        return bestRow().weight().longValueExact();
    }

    private static final int FAR = 1000000;

    private int[][] costs() {
        int[][] cost = new int[cells()][cells()];
        for (int a = 0; a < cells(); a++) {
            Arrays.fill(cost[a], FAR);
            for (int d = 0; d < 4 && free(a); d++) {
                cost[a][next(a, d)] = s.cost[next(a, d)];
            }
            cost[a][a] = free(a) ? 0 : FAR;
        }
        for (int over = 0; over < cells(); over++) {
            for (int a = 0; a < cells(); a++) {
                for (int b = 0; b < cells(); b++) {
                    cost[a][b] = Math.min(cost[a][b], cost[a][over] + cost[over][b]);
                }
            }
        }
        return cost;
    }

    int wayCost(int from, int to) {
        cellIn(from);
        cellIn(to);
        freeIn(from);
        freeIn(to);
        int cost = costs()[from][to];
        if (cost >= FAR) {
            throw new NoSuchElementException();
        }
        return cost;
    }

    int wayDirection(int from, int to) {
        int cost = wayCost(from, to);
        int[][] costs = costs();
        for (int d = 0; d < 4 && from != to; d++) {
            int c = next(from, d);
            if (c != from && s.cost[c] + costs[c][to] == cost) {
                return d;
            }
        }
        throw new NoSuchElementException();
    }

    int expectedCost(int to) {
        cellIn(to);
        freeIn(to);
        int[][] costs = costs();
        long sum = 0;
        for (int c = 0; c < cells(); c++) {
            sum += (long) s.belief[c] * (costs[c][to] >= FAR ? 100 : costs[c][to]);
        }
        return (int) (sum / 1000000);
    }

    int seed(int z) {
        change();
        int was = s.z;
        s.z = z;
        return was;
    }

    private void hit() {
        s.hits += ranking().get(0) == s.rover ? 1 : 0;
    }

    int drive(int d) {
        in(d, 0, 3);
        change();
        s.z = s.z * 1103515245 + 12345;
        int drawn = (s.z >>> 16) % 16;
        if (drawn < s.motion[0]) {
            s.rover = next(s.rover, d);
        } else if (drawn < s.motion[0] + s.motion[1]) {
            s.rover = next(s.rover, (d + 3) % 4);
        } else if (drawn < s.motion[0] + s.motion[1] + s.motion[2]) {
            s.rover = next(s.rover, (d + 1) % 4);
        }
        stepMove(d);
        hit();
        return s.rover;
    }

    int sense() {
        int seen = s.mark[s.rover];
        int z = s.z;
        int[] numbers = s.sensor[seen];
        int sum = Arrays.stream(numbers).sum();
        if (sum > 0) {
            z = z * 1103515245 + 12345;
            int drawn = (z >>> 16) % sum;
            seen = 0;
            while (drawn >= numbers[seen]) {
                drawn -= numbers[seen];
                seen++;
            }
        }
        stepSee(seen, z);
        hit();
        return seen;
    }

    int carry(int c) {
        cellIn(c);
        freeIn(c);
        change();
        int was = s.rover;
        s.rover = c;
        return was;
    }

    int rover() {
        return s.rover;
    }

    int count(int what) {
        in(what, 0, 6);
        return new int[] {s.w, s.h, freeCount(), s.restarts, s.hits, buffer.length(), past.size()}[what];
    }

    int undo() {
        if (past.isEmpty()) {
            throw new IllegalStateException();
        }
        s = past.removeLast();
        return past.size();
    }

    int save() {
        saved = s.copy();
        return freeCount();
    }

    int restore() {
        if (saved == null) {
            throw new IllegalStateException();
        }
        change();
        s = saved.copy();
        return freeCount();
    }
}
