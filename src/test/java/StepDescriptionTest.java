import java.util.ArrayList;
import java.util.List;

/** The paragraph Steps, sentence by sentence, and all rows of small grids written out as the document tells them. */
public final class StepDescriptionTest {
    private static final Check check = new Check();
    private static final Class<IllegalStateException> STATE = IllegalStateException.class;

    public static void main(String[] args) {
        setOtherwise();
        notSetOtherwise();
        restarts();
        restartOfTheRover();
        moreThanEight();
        withoutSteps();
        factorsOfMoves();
        factorsOfSights();
        atTheTimeOfTheStep();
        wallsAtTheTimeOfTheStep();
        endsThere();
        rateAndBeliefs();
        oneCell();
        nothingCounts();
        everyRow();
        check.end("StepDescriptionTest");
    }

    private static void exact(String what, RoverLocator x, long... want) {
        for (int cell = 0; cell < want.length; cell++) {
            check.due(what + ", exact " + cell, x.exact(cell), want[cell]);
        }
    }

    private static RoverLocator withTwoSteps() {
        RoverLocator x = Maps.of("..#/...");
        x.place(3);
        x.move(1);
        x.see(0);
        return x;
    }

    private static void setOtherwise() {
        check.sentence("The steps are the moves and seen marks since the beliefs were last set otherwise");
        check.due("two", withTwoSteps().steps(0), 2);
        RoverLocator spread = withTwoSteps();
        spread.spread();
        check.due("spread", spread.steps(0), 0);
        RoverLocator place = withTwoSteps();
        place.place(4);
        check.due("place", place.steps(0), 0);
        RoverLocator wall = withTwoSteps();
        wall.setWall(5, true);
        check.due("a wall", wall.steps(0), 0);
        RoverLocator free = withTwoSteps();
        free.setWall(2, false);
        check.due("no wall", free.steps(0), 0);
        RoverLocator load = withTwoSteps();
        Maps.append(load, "..#/...");
        load.load();
        check.due("load", load.steps(0), 0);
        for (RoverLocator x : new RoverLocator[] {spread, wall, load}) {
            check.due("rows begin anywhere", x.exact(0), 1);
        }
        check.due("rows begin in the new cell", place.exact(3) * 10 + place.exact(4), 1);
    }

    private static void notSetOtherwise() {
        check.sentence("The steps are the moves and seen marks since the beliefs were last set otherwise");
        RoverLocator x = withTwoSteps();
        x.setWall(2, true);
        x.setWall(4, false);
        x.setMark(0, 2);
        x.setCost(0, 2);
        x.setMotion(1, 2, 3);
        x.setSensor(0, 0, 50);
        x.setRate(100);
        x.setLimit(0);
        x.carry(5);
        x.seed(0);
        x.save();
        Check.outcome(() -> x.load());
        Check.outcome(() -> x.see(3) ? 1 : 0);
        Check.outcome(() -> x.place(2));
        x.append('.');
        x.promising();
        check.due("still two", x.steps(0), 2);
        exact("as they were", x, 0, 0, 0, 0, 1600, 0);
        x.drive(2);
        x.sense();
        check.due("the rover's are steps, too", x.steps(0), 4);
    }

    private static void restarts() {
        check.sentence("a restart makes the seen mark the first step, and rows that begin in any cell count then");
        RoverLocator x = Maps.of(".b.b");
        x.place(0);
        check.due("a restart as the first step", x.see(1), true);
        check.due("one step", x.steps(0), 1);
        check.due("the seen mark", x.step(0), 11);
        exact("any cell", x, 0, 100, 0, 100);
        x.place(2);
        for (int i = 0; i < 9; i++) {
            x.see(0);
        }
        check.fails("nine steps", STATE, () -> x.exact(0));
        check.due("a restart behind nine steps", x.see(1), true);
        check.due("one step again", x.steps(0), 1);
        exact("any cell again", x, 0, 100, 0, 100);
        x.move(3);
        check.due("the next one", x.step(1), 3);
        check.due("two steps", x.steps(0), 2);
        x.setLimit(100);
        x.setSensor(0, 0, 99);
        check.due("a restart below the limit", x.see(0), true);
        exact("all that can be", x, 99, 0, 99, 0);
        check.due("again one step", x.steps(2), 1);
        check.due("and no move", x.steps(1), 0);
    }

    private static void restartOfTheRover() {
        check.sentence("a restart makes the seen mark the first step, and rows that begin in any cell count then");
        RoverLocator x = Maps.of("b..b");
        x.place(1);
        x.drive(0);
        check.due("the rover's mark", x.sense(), 1);
        check.due("a restart", x.count(3), 1);
        check.due("one step", x.steps(0), 1);
        check.due("the seen mark", x.step(0), 11);
        exact("any cell", x, 100, 0, 0, 100);
    }

    private static void moreThanEight() {
        check.sentence("If there are more than 8, there are no exact weights.");
        for (int kind = 0; kind < 4; kind++) {
            RoverLocator x = Maps.of("..");
            for (int i = 1; i <= 10; i++) {
                step(x, kind);
                int steps = i;
                check.due("steps", x.steps(0), i);
                if (i <= 8) {
                    check.due("exact " + i, x.exact(1), power(kind < 2 ? 16 : 100, i));
                    check.due("likely " + i, x.likely(), 0);
                    check.due("path " + i, x.path(i), 0);
                    check.due("pathWeight " + i, x.pathWeight(), power(kind < 2 ? 16 : 100, i));
                } else {
                    check.fails("exact " + i, STATE, () -> x.exact(0));
                    check.fails("likely " + i, STATE, () -> x.likely());
                    check.fails("path " + i, STATE, () -> x.path(steps));
                    check.fails("pathWeight " + i, STATE, () -> x.pathWeight());
                }
            }
            x.undo();
            check.fails("nine are still too many", STATE, () -> x.exact(0));
            x.undo();
            check.due("eight again", x.pathWeight(), power(kind < 2 ? 16 : 100, 8));
        }
    }

    private static void step(RoverLocator x, int kind) {
        switch (kind) {
            case 0 -> x.move(0);
            case 1 -> x.drive(2);
            case 2 -> x.see(0);
            default -> x.sense();
        }
    }

    private static long power(long base, int exponent) {
        return exponent == 0 ? 1 : base * power(base, exponent - 1);
    }

    private static void withoutSteps() {
        check.sentence("is the product, 1 without steps");
        RoverLocator x = Maps.of("#.b");
        exact("no steps", x, 0, 1, 1);
        check.due("path", x.path(0), 1);
        check.due("path weight", x.pathWeight(), 1);
        check.due("likely", x.likely(), 1);
        x.place(2);
        exact("placed", x, 0, 0, 1);
        check.due("placed, path", x.path(0), 2);
        check.due("placed, path weight", x.pathWeight(), 1);
        check.due("placed, likely", x.likely(), 2);
    }

    private static void factorsOfMoves() {
        check.sentence("of the motion weight from the cell before it to that behind it, for a move");
        RoverLocator x = Maps.of("...");
        x.setMotion(8, 4, 3);
        x.place(0);
        x.move(1);
        exact("right", x, 8, 8, 0);
        x.move(0);
        exact("up: left of it, right of it, and against the edge", x, (12 + 1) * 8 + 4 * 8, 3 * 8 + 9 * 8, 3 * 8);
        RoverLocator one = Maps.of(".");
        one.setMotion(8, 4, 3);
        one.move(0);
        exact("a single cell", one, 16);
    }

    private static void factorsOfSights() {
        check.sentence("if the cell is the same before and behind it, and 0 otherwise");
        RoverLocator x = Maps.of(".bc");
        x.setSensor(0, 0, 7);
        x.setSensor(1, 0, 9);
        x.see(0);
        exact("one row each", x, 7, 9, 0);
        check.due("the same cell before", x.path(0), 1);
        check.due("and behind", x.path(1), 1);
        x.see(0);
        exact("twice", x, 49, 81, 0);
    }

    private static void atTheTimeOfTheStep() {
        check.sentence("Tables, walls and marks are those at the time of the step.");
        RoverLocator x = Maps.of(".b");
        for (int i = 0; i < 4; i++) {
            x.setMotion(16 - i, 0, 0);
            x.move(1);
            x.setSensor(0, 0, 10 + i);
            x.setSensor(1, 0, 20 + i);
            x.see(0);
        }
        x.setMotion(0, 0, 0);
        x.setSensor(0, 0, 0);
        x.setSensor(1, 0, 0);
        x.setMark(0, 3);
        x.setMark(1, 3);
        // From cell 0, i of 16 stay at the i-th move; from cell 1 all stay.
        long first = 1;
        long second = 1;
        for (int i = 0; i < 4; i++) {
            second = (second * 16 + first * (16 - i)) * (20 + i);
            first = first * i * (10 + i);
        }
        exact("as then", x, first, second);
        check.due("the path as then", x.path(0), 0);
        check.due("its weight as then", x.pathWeight(), 16L * 20 * 16 * 21 * 16 * 22 * 16 * 23);
    }

    private static void wallsAtTheTimeOfTheStep() {
        check.sentence("Tables, walls and marks are those at the time of the step.");
        RoverLocator x = Maps.of("..#");
        x.move(1);
        x.save();
        x.setWall(2, false);
        x.move(1);
        exact("without a wall", x, 0, 16, 32);
        x.restore();
        exact("with the wall again", x, 0, 32, 0);
        x.undo();
        exact("without it again", x, 0, 16, 32);
    }

    private static void endsThere() {
        check.sentence("is the sum of the exact weights of all rows of free cells that end there.");
        RoverLocator x = Maps.of("...");
        x.setMotion(8, 0, 0);
        x.move(1);
        x.move(1);
        // To cell 1: two rows from 0, one from 1; to cell 2: one from 0, two from 1, one from 2.
        exact("rows", x, 64, 64 + 64 + 64, 64 + 64 + 128 + 256);
        exact("a wall between", moved("#.#", 1), 0, 16, 0);
    }

    private static RoverLocator moved(String map, int direction) {
        RoverLocator x = Maps.of(map);
        x.move(direction);
        return x;
    }

    private static void rateAndBeliefs() {
        check.sentence("The rate of carrying away and the beliefs at the beginning do not matter for it");
        RoverLocator x = Maps.of("...");
        x.setRate(100);
        x.move(1);
        exact("all carried away", x, 0, 16, 32);
        x.move(1);
        exact("and again", x, 0, 0, 768);
    }

    private static void oneCell() {
        check.sentence("but if the beliefs were set to one cell, only rows that begin there count.");
        RoverLocator x = Maps.of("...");
        for (int cell = 0; cell < 3; cell++) {
            x.place(cell);
            exact("placed in " + cell, x, cell == 0 ? 1 : 0, cell == 1 ? 1 : 0, cell == 2 ? 1 : 0);
            check.due("the path begins in " + cell, x.path(0), cell);
            x.move(1);
            exact("moved from " + cell, x, 0, cell == 0 ? 16 : 0, cell == 0 ? 0 : 16);
            check.due("the path begins in " + cell, x.path(0), cell);
        }
        x.spread();
        exact("then not any more", x, 1, 1, 1);
        x.place(0);
        x.move(1);
        x.setMark(2, 1);
        x.see(1);
        exact("nor behind a restart", x, 0, 0, 100);
    }

    /** Beliefs can be where no row leads, if the rover may be carried away: then every exact weight is 0. */
    private static void nothingCounts() {
        RoverLocator x = Maps.of("#..b");
        x.setRate(50);
        x.place(3);
        x.see(1);
        x.move(0);
        check.due("no restart", x.see(0), false);
        check.sentence("Returns the cell with the greatest exact weight; of several the lowest one.");
        exact("no row", x, 0, 0, 0, 0);
        check.due("likely", x.likely(), 0);
        check.sentence("the greatest exact weight; of several the lexicographically least one.");
        int[] path = {3, 1, 1, 1};
        for (int index = 0; index < 4; index++) {
            check.due("path " + index, x.path(index), path[index]);
        }
        check.due("path weight", x.pathWeight(), 0);
        RoverLocator y = Maps.of("..");
        y.setMotion(0, 0, 0);
        y.setRate(1);
        y.place(1);
        y.setSensor(0, 0, 0);
        y.setMark(0, 1);
        check.due("no restart", y.move(0), 995000);
        check.due("none", y.see(1), false);
        exact("not even the placed cell", y, 0, 0);
        check.due("likely, too", y.likely(), 0);
        check.due("the path begins where it must", y.path(0), 1);
        check.due("and goes on with the least", y.path(1) * 10 + y.path(2), 0);
    }

    /** A step as the document tells it: the factor for each cell before and each behind. */
    private static int[][] factors(RoverLocator x, int direction, int seen, int[] numbers) {
        int cells = x.count(2);
        int[][] factors = new int[cells][cells];
        for (int from = 0; from < cells; from++) {
            for (int to = 0; to < cells; to++) {
                int stays = from == to ? numbers[x.cell(from, 1) * 4 + seen] : 0;
                factors[from][to] = direction >= 0 ? x.motion(from, to, direction) : stays;
            }
        }
        return factors;
    }

    /** Every row of four free cells, written out in lexicographic order. */
    private static void everyRow() {
        check.sentence("the greatest exact weight; of several the lexicographically least one.");
        int[] numbers = {100, 0, 50, 0, 50, 100, 0, 0, 0, 1, 1, 0, 0, 0, 0, 7};
        int[][] tables = {{16, 0, 0}, {8, 0, 0}, {4, 4, 4}, {0, 8, 8}, {10, 3, 2}, {0, 0, 0}};
        for (int run = 0; run < 600; run++) {
            RoverLocator x = Maps.of(run % 2 == 0 ? "ab/ca" : "abac");
            for (int i = 0; i < 16; i++) {
                x.setSensor(i / 4, i % 4, numbers[i]);
            }
            x.setRate(run % 3);
            int start = run % 5 - 1;
            check.due("start", start < 0 ? x.spread() : x.place(start), start < 0 ? 4 : 250000);
            List<int[][]> steps = new ArrayList<>();
            for (int k = 0; k < run % 6; k++) {
                int[] table = tables[(run / 6 + k) % 6];
                x.setMotion(table[0], table[1], table[2]);
                boolean move = (run >> k & 1) == 0;
                int number = (run / 7 + k) % (move ? 4 : 3);
                int[][] factor = factors(x, move ? number : -1, number, numbers);
                if (move) {
                    x.move(number);
                } else if (x.see(number)) {
                    steps.clear();
                    start = -1;
                }
                steps.add(factor);
            }
            compare(x, start, steps, "run " + run);
        }
    }

    private static void compare(RoverLocator x, int start, List<int[][]> steps, String what) {
        int length = steps.size() + 1;
        long[] ends = new long[4];
        long greatest = -1;
        int best = 0;
        for (int row = 0; row < 1 << 2 * length; row++) {
            int begin = cellOf(row, 0, length);
            if (start >= 0 && begin != start) {
                continue;
            }
            long weight = 1;
            for (int k = 0; k < steps.size(); k++) {
                weight *= steps.get(k)[cellOf(row, k, length)][cellOf(row, k + 1, length)];
            }
            ends[cellOf(row, length - 1, length)] += weight;
            if (weight > greatest) {
                greatest = weight;
                best = row;
            }
        }
        exact(what, x, ends);
        check.due(what + ", weight of the path", x.pathWeight(), greatest);
        int likely = 0;
        for (int cell = 0; cell < 4; cell++) {
            likely = ends[cell] > ends[likely] ? cell : likely;
        }
        check.due(what + ", likely", x.likely(), likely);
        for (int index = 0; index < length; index++) {
            check.due(what + ", path " + index, x.path(index), cellOf(best, index, length));
        }
    }

    /** A row is a number with a digit of two bits for each cell, the first one the highest. */
    private static int cellOf(int row, int index, int length) {
        return row >> 2 * (length - 1 - index) & 3;
    }
}
