import java.util.NoSuchElementException;

/** Promises 31 to 33: the costs and directions of ways. */
public final class WayPromisesTest {
    private static final Check check = new Check();
    private static final Class<IndexOutOfBoundsException> INDEX = IndexOutOfBoundsException.class;
    private static final Class<IllegalStateException> STATE = IllegalStateException.class;
    private static final Class<NoSuchElementException> NONE = NoSuchElementException.class;

    public static void main(String[] args) {
        wrongInputs();
        promise31();
        promise32();
        promise33();
        longWay();
        check.end("WayPromisesTest");
    }

    private static void wrongInputs() {
        RoverLocator x = Maps.of("#.#/...");
        check.fails("31 from -1", INDEX, () -> x.wayCost(-1, 1));
        check.fails("31 to 6", INDEX, () -> x.wayCost(1, 6));
        check.fails("31 a wall and no cell", INDEX, () -> x.wayCost(0, 6));
        check.fails("31 no cell and a wall", INDEX, () -> x.wayCost(6, 0));
        check.fails("31 from a wall", STATE, () -> x.wayCost(0, 1));
        check.fails("31 to a wall", STATE, () -> x.wayCost(1, 2));
        check.fails("31 a wall itself", STATE, () -> x.wayCost(0, 0));
        check.fails("32 from -1", INDEX, () -> x.wayDirection(-1, 0));
        check.fails("32 to 6", INDEX, () -> x.wayDirection(0, 6));
        check.fails("32 from a wall", STATE, () -> x.wayDirection(0, 1));
        check.fails("32 to a wall", STATE, () -> x.wayDirection(1, 2));
        check.fails("32 a wall itself", STATE, () -> x.wayDirection(2, 2));
        check.fails("32 the same", NONE, () -> x.wayDirection(1, 1));
        check.fails("33 -1", INDEX, () -> x.expectedCost(-1));
        check.fails("33 6", INDEX, () -> x.expectedCost(6));
        check.fails("33 a wall", STATE, () -> x.expectedCost(0));
        RoverLocator y = Maps.of(".#.");
        check.fails("31 no way", NONE, () -> y.wayCost(0, 2));
        check.fails("32 no way", NONE, () -> y.wayDirection(2, 0));
        check.due("no change", y.count(6), 1);
    }

    private static void promise31() {
        RoverLocator x = new RoverLocator();
        check.due("31 the same", x.wayCost(7, 7), 0);
        check.due("31 all ones", x.wayCost(0, 11), 5);
        x.setCost(0, 9);
        x.setCost(11, 4);
        check.due("31 not the first cell", x.wayCost(0, 11), 8);
        check.due("31 back", x.wayCost(11, 0), 13);
        x.setCost(1, 9);
        x.setCost(5, 9);
        check.due("31 round about", x.wayCost(4, 2), 5);
        x.setWall(9, true);
        check.due("31 through", x.wayCost(4, 2), 11);
        x.setWall(5, true);
        check.due("31 over the other", x.wayCost(4, 2), 19);
    }

    private static void promise32() {
        RoverLocator x = new RoverLocator();
        check.due("32 of two the lower", x.wayDirection(0, 11), 1);
        check.due("32 of up and left", x.wayDirection(11, 0), 0);
        check.due("32 of right and down", x.wayDirection(4, 9), 1);
        check.due("32 of down and left", x.wayDirection(3, 8), 2);
        check.due("32 left", x.wayDirection(7, 4), 3);
        check.due("32 down", x.wayDirection(2, 10), 2);
        x.setCost(1, 2);
        check.due("32 the cheaper", x.wayDirection(0, 11), 2);
        x.setCost(8, 9);
        x.setCost(5, 9);
        check.due("32 and back", x.wayDirection(0, 11), 1);
        check.due("32 not against the edge", x.wayDirection(3, 1), 3);
    }

    private static void promise33() {
        RoverLocator x = Maps.of("..#./..#.");
        x.setCost(0, 3);
        // to 0: 0, 3, 4 (5 over 4 or 1), 3 from 4; the cells 3 and 7 have no way
        check.due("33 even", x.expectedCost(0), (166667 * (0 + 3 + 100 + 3) + 166666 * (4 + 100)) / 1000000);
        x.place(5);
        check.due("33 one cell", x.expectedCost(0), 4);
        check.due("33 itself", x.expectedCost(5), 0);
        check.due("33 no way", x.expectedCost(3), 100);
        RoverLocator y = Maps.of("..");
        y.setCost(1, 9);
        check.due("33 truncated", y.expectedCost(1), 4);
        y.setRate(1);
        y.place(1);
        y.move(1);
        check.due("33 nearly there", y.expectedCost(1), 0);
        check.due("33 nearly back", y.expectedCost(0), 0);
    }

    private static void longWay() {
        RoverLocator x = Maps.of("....../#####./....../.#####/....../#####.");
        for (int cell = 0; cell < 36; cell++) {
            if (x.cell(cell, 0) == 0) {
                x.setCost(cell, 9);
            }
        }
        check.due("31 a long way", x.wayCost(0, 35), 9 * 20);
        check.due("31 a long way back", x.wayCost(35, 0), 9 * 20);
        check.due("32 a long way", x.wayDirection(17, 35), 3);
        x.place(0);
        check.due("33 more than 100", x.expectedCost(35), 180);
    }
}
