/** The paragraphs Beliefs, Moving and Seeing, sentence by sentence, where they name a bound or a case at the edge. */
public final class BeliefDescriptionTest {
    private static final Check check = new Check();
    private static final Class<IllegalArgumentException> ARGUMENT = IllegalArgumentException.class;
    private static final Class<IllegalStateException> STATE = IllegalStateException.class;
    private static final int WHOLE = 1000000;

    public static void main(String[] args) {
        divisions();
        beliefsOfWalls();
        theWhole();
        fullSum();
        greatestRemainders();
        equalRemainders();
        evenBeliefs();
        sumsOfMoves();
        rates();
        freeCellsOnly();
        weightsOfSights();
        limits();
        everyLimit();
        nothingSeen();
        newWeights();
        unseen();
        check.end("BeliefDescriptionTest");
    }

    /** Two cells with the beliefs 1 and 999999, with the marks 0 and 1, before walls. */
    private static RoverLocator nearlySure() {
        RoverLocator x = Maps.of(".b#/###");
        x.setSensor(0, 0, 1);
        x.setSensor(1, 0, 100);
        for (int i = 0; i < 3; i++) {
            x.see(0);
        }
        return x;
    }

    private static void beliefs(String what, RoverLocator x, String want) {
        check.due(what, Maps.beliefsOf(x), want);
    }

    private static void divisions() {
        check.sentence("Divisions of whole numbers are truncated, if nothing else is said.");
        RoverLocator x = nearlySure();
        check.due("999999 / 1000000", x.expectedCost(0), 0);
        x.setCost(0, 2);
        check.due("1999998 / 1000000", x.expectedCost(0), 1);
        x.place(1);
        check.due("2000000 / 1000000", x.expectedCost(0), 2);
    }

    private static void beliefsOfWalls() {
        check.sentence("Each free cell has a belief; walls have the belief 0.");
        RoverLocator x = Maps.of("#.#/.#.");
        beliefs("at first", x, "0 333334 0 333333 0 333333");
        x.setRate(100);
        x.place(1);
        x.move(2);
        beliefs("carried away", x, "0 333334 0 333333 0 333333");
        x.setSensor(0, 1, 1);
        x.see(1);
        beliefs("seen", x, "0 333334 0 333333 0 333333");
        check.due("a restart", x.see(0), false);
        x.setWall(3, true);
        beliefs("a new wall", x, "0 500000 0 0 0 500000");
        check.due("the belief of a wall", x.belief(3), 0);
    }

    private static void theWhole() {
        check.sentence("All beliefs are whole numbers that are not negative, and their sum is 1000000.");
        for (int cells = 1; cells <= 36; cells++) {
            RoverLocator x = withFreeCells(cells);
            x.setMotion(7, 5, 3);
            x.setRate(cells % 4);
            x.setMark(0, 1);
            x.setSensor(0, 1, 17);
            x.setSensor(0, 0, 59);
            x.setSensor(1, 0, 3);
            for (int i = 0; i < 8; i++) {
                int mark = i / 4;
                x.move(i % 4);
                check.due("can be seen", Check.outcome(() -> x.see(mark) ? 1 : 0), "0");
                int sum = 0;
                for (int cell = 0; cell < 36; cell++) {
                    int belief = x.belief(cell);
                    check.due("not negative", belief >= 0, true);
                    sum += belief;
                }
                check.due("the sum of " + cells, sum, WHOLE);
            }
        }
    }

    /** Six by six, the last ones walls. */
    private static RoverLocator withFreeCells(int number) {
        StringBuilder map = new StringBuilder(Maps.free(6, 6));
        for (int cell = number; cell < 36; cell++) {
            map.setCharAt(cell / 6 * 7 + cell % 6, '#');
        }
        return Maps.of(map.toString());
    }

    private static void fullSum() {
        check.sentence("then, as long as the sum of all beliefs is less than 1000000");
        for (int cells : new int[] {1, 2, 4, 5, 8, 10, 16, 20, 25, 32}) {
            RoverLocator x = withFreeCells(cells);
            check.due("the first of " + cells, x.belief(0), WHOLE / cells);
            check.due("the last of " + cells, x.belief(cells - 1), WHOLE / cells);
        }
    }

    private static void greatestRemainders() {
        check.sentence("the cells with the greatest remainders of these divisions get 1 more, one after the other");
        RoverLocator x = Maps.of("...");
        x.setMotion(1, 0, 0);
        // The weights are 5000010, 5333329 and 5666661, the remainders 10, 1 and 5 of 16: one cell gets 1 more.
        x.move(1);
        beliefs("the first", x, "312501 333333 354166");
        RoverLocator y = Maps.of(".b.");
        y.setSensor(0, 1, 50);
        // 16666700, 33333300 and 16666650 of 66666650: the remainders are 37500000, 41666650 and 54166650.
        y.see(1);
        beliefs("the third and the second", y, "250000 500000 250000");
    }

    private static void equalRemainders() {
        check.sentence("cells with equal remainders in ascending order, each cell once at most");
        for (int cells = 1; cells <= 36; cells++) {
            RoverLocator x = withFreeCells(cells);
            int more = WHOLE % cells;
            for (int cell = 0; cell < cells; cell++) {
                check.due(cell + " of " + cells, x.belief(cell), WHOLE / cells + (cell < more ? 1 : 0));
            }
        }
    }

    private static void evenBeliefs() {
        check.sentence("The even beliefs are found by scaling weights that are 1 for each free cell.");
        beliefs("one free cell", Maps.of("##/#b"), "0 0 0 1000000");
        beliefs("walls between", Maps.of(".#./#.#"), "333334 0 333333 0 333333 0");
    }

    private static void sumsOfMoves() {
        check.sentence("the sum, over all free cells, of their beliefs times the motion weight from them to it");
        RoverLocator x = Maps.of("..");
        x.move(1);
        beliefs("both go to one", x, "0 1000000");
        x.setMotion(0, 0, 0);
        x.move(1);
        beliefs("all stay", x, "0 1000000");
        x.setMotion(4, 4, 4);
        x.move(3);
        beliefs("only ahead leads away", x, "250000 750000");
        RoverLocator one = Maps.of(".");
        check.due("a single cell", one.move(2), WHOLE);
    }

    private static void rates() {
        check.sentence("With the rate r of carrying away, from 0 to 100, at first 0, and n free cells");
        RoverLocator x = Maps.of("....");
        x.place(3);
        x.move(0);
        beliefs("at first", x, "0 0 0 1000000");
        check.due("0", x.setRate(1), 0);
        x.move(0);
        beliefs("1", x, "2500 2500 2500 992500");
        x.setRate(99);
        x.place(3);
        x.move(0);
        beliefs("99", x, "247500 247500 247500 257500");
        x.setRate(100);
        x.place(3);
        x.move(0);
        beliefs("100", x, "250000 250000 250000 250000");
        x.setRate(0);
        x.place(3);
        x.move(0);
        beliefs("0", x, "0 0 0 1000000");
        check.fails("101", ARGUMENT, () -> x.setRate(101));
        check.fails("-1", ARGUMENT, () -> x.setRate(-1));
        RoverLocator great = Maps.of(Maps.free(6, 6));
        great.setRate(50);
        great.place(35);
        // 37 and 1 of 72, with equal remainders: 32 more for 36 cells.
        check.due("the greatest weights", great.move(1), 513888);
        check.due("the greatest weights, the first cell", great.belief(0), 13889);
        check.due("the greatest weights, cell 31", great.belief(31), 13889);
        check.due("the greatest weights, cell 32", great.belief(32), 13888);
    }

    private static void freeCellsOnly() {
        check.sentence("and n free cells, each weight w then becomes (100 - r) * n * w + r * 16000000");
        RoverLocator x = Maps.of("#.#/.#./#.#");
        x.setRate(20);
        x.place(1);
        x.move(1);
        beliefs("four free cells of nine", x, "0 850000 0 50000 0 50000 0 50000 0");
    }

    private static void weightsOfSights() {
        check.sentence("its belief times the number in the sensor table for its mark and the seen one");
        RoverLocator x = Maps.of("abcd");
        for (int mark = 0; mark < 4; mark++) {
            x.setSensor(mark, 3, 10 * (mark + 1));
        }
        check.due("a restart", x.see(3), false);
        beliefs("all marks", x, "100000 200000 300000 400000");
        x.setSensor(3, 3, 0);
        x.setSensor(0, 3, 0);
        x.see(3);
        beliefs("without the outer ones", x, "0 307692 692308 0");
    }

    /** Sums that equal the limit, or are 1 away from it. */
    private static void limits() {
        check.sentence("If the sum of the weights is less than 1000000 times the limit");
        check.due("49999999 of 50000000", seesNearlySure(49, 50, 50), true);
        check.due("50000000 of 50000000", seesNearlySure(50, 50, 50), false);
        check.due("50000001 of 50000000", seesNearlySure(51, 50, 50), false);
        check.due("99999999 of 100000000", seesNearlySure(99, 100, 100), true);
        check.due("100000000 of 100000000", seesNearlySure(100, 100, 100), false);
        check.due("999999 of 1000000", seesNearlySure(0, 1, 1), true);
        check.due("1000000 of 1000000", seesNearlySure(1, 1, 1), false);
        check.due("1 of 0", seesNearlySure(1, 0, 0), false);
    }

    private static boolean seesNearlySure(int first, int second, int limit) {
        RoverLocator x = nearlySure();
        x.setSensor(0, 0, first);
        x.setSensor(1, 0, second);
        x.setLimit(limit);
        boolean restart = x.see(0);
        check.due("counted", x.count(3), restart ? 1 : 0);
        check.due("steps", x.steps(0), restart ? 1 : 4);
        return restart;
    }

    private static void everyLimit() {
        check.sentence("the limit, which is from 0 to 100, at first 0");
        check.due("at first", new RoverLocator().setLimit(0), 0);
        for (int limit = 0; limit <= 100; limit++) {
            RoverLocator x = Maps.of("..");
            x.setLimit(limit);
            check.due("as much as the limit", limit > 0 && setAndSee(x, limit), false);
            check.due("less than the limit", limit > 1 && setAndSee(x, limit - 1), limit > 1);
            check.due("more than the limit", limit < 100 && setAndSee(x, limit + 1), false);
        }
    }

    private static boolean setAndSee(RoverLocator x, int number) {
        x.setSensor(0, 0, number);
        return x.see(0);
    }

    private static void nothingSeen() {
        check.sentence("or is 0, a restart takes place");
        RoverLocator x = Maps.of(".b");
        x.place(0);
        check.due("with the limit 0", x.see(1), true);
        check.due("once", x.count(3), 1);
        beliefs("as seen from everywhere", x, "0 1000000");
    }

    private static void newWeights() {
        check.sentence("the weights are found anew with the even beliefs in place of the present ones.");
        RoverLocator x = Maps.of("#.../....");
        x.setLimit(90);
        x.setSensor(0, 0, 80);
        x.place(7);
        check.due("less than the limit even then", x.see(0), true);
        beliefs("even", x, "0 142858 142857 142857 142857 142857 142857 142857");
        check.due("and again", x.see(0), true);
        check.due("counted", x.count(3), 2);
        RoverLocator y = Maps.of(".b.");
        y.setSensor(0, 1, 50);
        y.setLimit(51);
        y.place(0);
        check.due("less than the limit", y.see(1), true);
        beliefs("all cells count", y, "250000 500000 250000");
    }

    private static void unseen() {
        check.sentence("If their sum is 0 even then, the mark cannot be seen.");
        RoverLocator x = Maps.of(".b");
        x.place(0);
        for (int mark = 2; mark < 4; mark++) {
            int seen = mark;
            check.fails("mark " + mark, STATE, () -> x.see(seen));
        }
        x.setSensor(1, 2, 1);
        check.due("a number of 1 is enough", x.see(2), true);
        beliefs("seen", x, "0 1000000");
        check.sentence("or is 0, a restart takes place");
        x.setLimit(100);
        check.fails("a limit changes nothing", STATE, () -> x.see(3));
        check.due("no restart is counted", x.count(3), 1);
    }
}
