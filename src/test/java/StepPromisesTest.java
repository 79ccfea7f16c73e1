import java.util.NoSuchElementException;

/** Promises 25 to 30: the steps, their exact weights and the most likely path. */
public final class StepPromisesTest {
    private static final Check check = new Check();
    private static final Class<IndexOutOfBoundsException> INDEX = IndexOutOfBoundsException.class;
    private static final Class<IllegalArgumentException> ARGUMENT = IllegalArgumentException.class;
    private static final Class<IllegalStateException> STATE = IllegalStateException.class;
    private static final Class<NoSuchElementException> NONE = NoSuchElementException.class;

    public static void main(String[] args) {
        promise25();
        promise26();
        promise27();
        promise27Tables();
        promise27Start();
        promise27Greatest();
        promise28();
        promise29();
        promise29Zero();
        moreThanEight();
        forgottenSteps();
        check.end("StepPromisesTest");
    }

    private static void weights(String what, RoverLocator x, long... want) {
        for (int cell = 0; cell < want.length; cell++) {
            check.due(what + " exact " + cell, x.exact(cell), want[cell]);
        }
    }

    private static void paths(String what, RoverLocator x, long weight, int... want) {
        for (int index = 0; index < want.length; index++) {
            check.due(what + " path " + index, x.path(index), want[index]);
        }
        check.fails(what + " path too far", INDEX, () -> x.path(want.length));
        check.fails(what + " path -1", INDEX, () -> x.path(-1));
        check.due(what + " path weight", x.pathWeight(), weight);
    }

    private static void counts(String what, RoverLocator x, int moves, int sights) {
        check.due(what + " all steps", x.steps(0), moves + sights);
        check.due(what + " moves", x.steps(1), moves);
        check.due(what + " seen marks", x.steps(2), sights);
    }

    private static void promise25() {
        RoverLocator x = new RoverLocator();
        check.fails("25 -1", ARGUMENT, () -> x.steps(-1));
        check.fails("25 3", ARGUMENT, () -> x.steps(3));
        counts("25 at first", x, 0, 0);
        x.move(1);
        x.see(0);
        x.drive(2);
        x.sense();
        x.sense();
        counts("25 with the rover's", x, 2, 3);
        for (int i = 0; i < 20; i++) {
            x.move(i % 4);
        }
        counts("25 more than eight", x, 22, 3);
        x.setMark(0, 1);
        x.setCost(0, 2);
        x.setMotion(8, 0, 0);
        x.setSensor(0, 1, 1);
        x.setRate(1);
        x.setLimit(1);
        x.seed(2);
        x.carry(3);
        x.save();
        counts("25 other changes leave them", x, 22, 3);
        x.spread();
        counts("25 spread", x, 0, 0);
        x.restore();
        counts("25 restore", x, 22, 3);
        x.undo();
        counts("25 undo", x, 0, 0);
        x.undo();
        counts("25 undo again", x, 22, 3);
        x.setWall(9, true);
        counts("25 setWall", x, 0, 0);
    }

    private static void promise26() {
        RoverLocator x = new RoverLocator();
        check.fails("26 none", NONE, () -> x.step(0));
        x.setMark(3, 3);
        x.move(2);
        x.see(3);
        x.see(0);
        check.due("26 a restart began anew", x.step(0), 10);
        x.drive(3);
        x.sense();
        check.due("26 a drive", x.step(1), 3);
        check.due("26 a sense", x.step(2), 10);
        check.fails("26 -1", NONE, () -> x.step(-1));
        check.fails("26 3 of 3", NONE, () -> x.step(3));
        for (int i = 3; i < 8; i++) {
            x.move(1);
        }
        check.due("26 the last of eight", x.step(7), 1);
        check.fails("26 8 of 8", NONE, () -> x.step(8));
        x.move(1);
        for (int i = 0; i <= 9; i++) {
            int index = i;
            check.fails("26 of nine", NONE, () -> x.step(index));
        }
        x.undo();
        check.due("26 eight again", x.step(0), 10);
    }

    private static void promise27() {
        RoverLocator x = Maps.of("...");
        check.fails("27 -1", INDEX, () -> x.exact(-1));
        check.fails("27 3", INDEX, () -> x.exact(3));
        weights("27 no steps", x, 1, 1, 1);
        x.setMotion(10, 3, 2);
        x.move(1);
        weights("27 right", x, 6, 16, 26);
        x.see(0);
        weights("27 seen", x, 600, 1600, 2600);
        x.move(3);
        weights("27 left", x, 16 * 600 + 10 * 1600, 6 * 1600 + 10 * 2600, 6 * 2600);
        weights("27 walls end nothing", Maps.of("#.#"), 0, 1, 0);
    }

    private static void promise27Tables() {
        RoverLocator x = Maps.of(".b");
        x.setMotion(10, 3, 2);
        x.setSensor(0, 1, 7);
        x.move(1);
        x.see(1);
        weights("27 before", x, 6 * 7, 26 * 100);
        x.setMotion(0, 0, 0);
        x.setSensor(0, 1, 1);
        x.setSensor(1, 1, 2);
        x.setMark(0, 1);
        x.setMark(1, 0);
        x.setRate(100);
        weights("27 as at the time of the step", x, 6 * 7, 26 * 100);
        x.see(1);
        weights("27 with the new numbers", x, 6 * 7 * 2, 26 * 100);
        x.move(3);
        weights("27 all stay now", x, 6 * 7 * 2 * 16, 26 * 100 * 16);
    }

    private static void promise27Start() {
        RoverLocator x = Maps.of("...");
        x.setMotion(10, 0, 0);
        x.place(1);
        weights("27 one cell", x, 0, 1, 0);
        x.move(1);
        weights("27 from one cell", x, 0, 6, 10);
        x.setRate(100);
        x.move(3);
        weights("27 the rate does not matter", x, 60, 36 + 100, 60);
        x.save();
        x.spread();
        weights("27 anywhere again", x, 1, 1, 1);
        x.restore();
        weights("27 restored", x, 60, 136, 60);
        x.undo();
        weights("27 undone", x, 1, 1, 1);
        x.setRate(0);
        x.place(0);
        x.setMark(2, 1);
        check.due("27 a restart", x.see(1), true);
        weights("27 a restart lets rows begin anywhere", x, 0, 0, 100);
        RoverLocator y = Maps.of("...");
        y.setMotion(8, 0, 0);
        y.place(1);
        y.drive(1);
        weights("27 driven from one cell", y, 0, 8, 8);
        y.sense();
        weights("27 sensed there", y, 0, 800, 800);
    }

    private static void promise27Greatest() {
        RoverLocator x = Maps.of("bbbbbb/bbbbbb/bbbbbb/bbbbbb/bbbbbb/bbbbbb");
        for (int i = 0; i < 8; i++) {
            x.see(1);
        }
        check.due("27 the greatest weight", x.exact(35), 10000000000000000L);
        check.due("30 the greatest weight", x.pathWeight(), 10000000000000000L);
        check.due("28 the first of 36", x.likely(), 0);
        check.due("29 the first of 36", x.path(8), 0);
        x.place(35);
        x.move(1);
        x.see(1);
        check.due("28 the last of 36", x.likely(), 35);
        check.due("29 the last of 36", x.path(2), 35);
        x.spread();
        x.setMotion(16, 0, 0);
        for (int i = 0; i < 8; i++) {
            x.move(i % 2 == 0 ? 0 : 3);
        }
        check.due("27 all rows end in a corner's cells", x.exact(0), 25L * 4294967296L);
    }

    private static void promise28() {
        RoverLocator x = Maps.of("#...");
        check.due("28 no steps", x.likely(), 1);
        x.setMotion(10, 3, 2);
        x.move(1);
        check.due("28 right", x.likely(), 3);
        x.move(3);
        x.move(3);
        check.due("28 back", x.likely(), 1);
        x.place(2);
        check.due("28 placed", x.likely(), 2);
        x.setMotion(8, 0, 0);
        x.move(1);
        check.due("28 of two the lower one", x.likely(), 2);
    }

    private static void promise29() {
        RoverLocator x = Maps.of("#...");
        paths("29 no steps", x, 1, 1);
        x.place(3);
        paths("29 placed", x, 1, 3);
        x.spread();
        x.setMotion(10, 3, 2);
        x.move(1);
        paths("29 right", x, 16, 3, 3);
        x.move(3);
        paths("29 back", x, 160, 3, 3, 2);
        x.see(0);
        paths("29 seen", x, 16000, 3, 3, 2, 2);
        RoverLocator z = Maps.of(".b");
        z.setSensor(0, 0, 1);
        z.see(0);
        paths("29 the first cell", z, 1, 0, 0);
        z.setSensor(1, 0, 1);
        z.place(1);
        z.see(0);
        paths("29 seeing leads nowhere", z, 1, 1, 1);
        RoverLocator y = Maps.of(".b.");
        y.setMotion(8, 0, 0);
        y.place(0);
        y.move(1);
        paths("29 of two the lower one", y, 8, 0, 0);
        y.move(1);
        paths("29 the lexicographically least", y, 64, 0, 0, 0);
        y.see(1);
        paths("29 the later it goes the less", y, 6400, 0, 0, 1, 1);
        y.move(3);
        paths("29 it may go back", y, 51200, 0, 0, 1, 1, 0);
    }

    private static void promise29Zero() {
        RoverLocator x = Maps.of("#..b");
        x.setRate(50);
        x.place(3);
        x.move(1);
        check.due("29 no restart", x.see(0), false);
        x.move(1);
        weights("29 no row has a weight", x, 0, 0, 0, 0);
        paths("29 of rows without a weight", x, 0, 3, 1, 1, 1);
        // The document does not keep walls out here: their exact weight is 0, too.
        check.due("28 of cells without a weight", x.likely(), 0);
    }

    private static void moreThanEight() {
        RoverLocator x = Maps.of("..");
        x.place(1);
        for (int i = 0; i < 8; i++) {
            x.see(0);
        }
        check.due("27 eight", x.exact(1), 10000000000000000L);
        check.due("29 eight", x.path(8), 1);
        x.move(1);
        check.fails("27 no cell", INDEX, () -> x.exact(2));
        check.fails("27 nine", STATE, () -> x.exact(1));
        check.fails("28 nine", STATE, () -> x.likely());
        check.fails("29 nine", STATE, () -> x.path(0));
        check.fails("29 nine and no index", STATE, () -> x.path(-1));
        check.fails("30 nine", STATE, () -> x.pathWeight());
        x.undo();
        check.due("27 eight again", x.exact(1), 10000000000000000L);
        x.move(1);
        x.spread();
        check.due("27 none", x.exact(1), 1);
    }

    /** Steps that are over leave nothing behind for the next ones. */
    private static void forgottenSteps() {
        RoverLocator x = new RoverLocator();
        for (int i = 0; i < 8; i++) {
            x.see(0);
        }
        x.spread();
        RoverLocator fresh = new RoverLocator();
        for (int i = 0; i < 8; i++) {
            for (RoverLocator each : new RoverLocator[] {x, fresh}) {
                each.setMotion(4 + i, 3, 2);
                each.move(i % 3);
            }
            check.due("30 behind " + i, x.pathWeight(), fresh.pathWeight());
            check.due("28 behind " + i, x.likely(), fresh.likely());
            check.due("27 behind " + i, x.exact(11), fresh.exact(11));
        }
    }
}
