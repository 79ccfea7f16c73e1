import java.util.HashMap;
import java.util.Map;
import java.util.NoSuchElementException;

/**
 * Every refused call: what it throws, also where several exceptions are possible, and that it leaves the state
 * unchanged, which is seen by the portrait of an object that never got the call.
 */
public final class RefusedCallsTest {
    interface Refusal {
        void on(RoverLocator x);
    }

    private static final Check check = new Check();
    private static final Class<IndexOutOfBoundsException> INDEX = IndexOutOfBoundsException.class;
    private static final Class<IllegalArgumentException> ARGUMENT = IllegalArgumentException.class;
    private static final Class<IllegalStateException> STATE = IllegalStateException.class;
    private static final Class<NoSuchElementException> NONE = NoSuchElementException.class;
    private static final Map<Scene, String> PORTRAITS = new HashMap<>();

    private static final Scene FRESH = () -> new RoverLocator();
    private static final Scene BUSY = () -> busy();
    private static final Scene NINE = () -> nineSteps();
    private static final Scene BLIND = () -> blind();
    private static final Scene APART = () -> apart();

    public static void main(String[] args) {
        noSuchCell();
        noSuchMark();
        noSuchDirection();
        outOfRange();
        noSuchIndex();
        badCharacters();
        tooManyCharacters();
        badTexts();
        lastFreeCell();
        walls();
        unseenMark();
        tooManySteps();
        noWay();
        nothingToTakeBack();
        nothingSaved();
        severalExceptions();
        oldestChangeStays();
        check.end("RefusedCallsTest");
    }

    /** Nine cells with walls in two corners, all changes, something saved, an error position and a buffer. */
    private static RoverLocator busy() {
        RoverLocator x = Maps.of("#b./.c./d.#");
        x.setMotion(9, 3, 2);
        x.setSensor(0, 1, 7);
        x.setSensor(1, 0, 20);
        x.setRate(10);
        x.setLimit(5);
        x.setCost(1, 4);
        x.seed(77);
        x.save();
        x.carry(4);
        x.place(5);
        x.move(3);
        x.see(1);
        x.drive(1);
        x.sense();
        Check.outcome(() -> Maps.append(x, "..?").load());
        return Maps.append(x, "./");
    }

    private static RoverLocator nineSteps() {
        RoverLocator x = busy();
        for (int i = 0; i < 9; i++) {
            x.move(i % 4);
        }
        return x;
    }

    /** The rover's mark is seen from no cell, nor is mark 2. */
    private static RoverLocator blind() {
        RoverLocator x = Maps.of(".b.");
        x.setSensor(0, 0, 0);
        x.seed(9);
        x.place(1);
        x.move(3);
        return x;
    }

    private static RoverLocator apart() {
        RoverLocator x = Maps.of(".#.");
        x.place(2);
        x.drive(1);
        return x;
    }

    private static void refused(String what, Scene scene, Class<? extends RuntimeException> want, Refusal call) {
        RoverLocator x = scene.make();
        check.fails(what, want, () -> call.on(x));
        String before = PORTRAITS.computeIfAbsent(scene, Portrait::of);
        check.due(what + " leaves the state", Portrait.of(() -> after(scene, call)), before);
    }

    private static RoverLocator after(Scene scene, Refusal call) {
        RoverLocator x = scene.make();
        Check.outcome(() -> {
            call.on(x);
            return 0;
        });
        return x;
    }

    /** Numbers next to a range and far from it, also such as come back into it when cut, shifted or multiplied. */
    private static int[] beyond(int low, int high) {
        return new int[] {low - 1, high + 1, low - 256, low + 256, low + 65536, low + 0x40000000,
            low + Integer.MIN_VALUE, Integer.MIN_VALUE, Integer.MAX_VALUE};
    }

    private static void noSuchCell() {
        check.sentence("if there is no such cell");
        for (int c : beyond(0, 8)) {
            refused("5 a wall at " + c, BUSY, INDEX, x -> x.setWall(c, true));
            refused("5 no wall at " + c, BUSY, INDEX, x -> x.setWall(c, false));
            refused("6 " + c, BUSY, INDEX, x -> x.setMark(c, 1));
            refused("7 " + c, BUSY, INDEX, x -> x.setCost(c, 1));
            refused("12 " + c, BUSY, INDEX, x -> x.cell(c, 0));
            refused("13 from " + c, BUSY, INDEX, x -> x.motion(c, 4, 0));
            refused("13 to " + c, BUSY, INDEX, x -> x.motion(4, c, 0));
            refused("16 " + c, BUSY, INDEX, x -> x.place(c));
            refused("19 " + c, BUSY, INDEX, x -> x.belief(c));
            refused("27 " + c, BUSY, INDEX, x -> x.exact(c));
            refused("31 from " + c, BUSY, INDEX, x -> x.wayCost(c, 4));
            refused("31 to " + c, BUSY, INDEX, x -> x.wayCost(4, c));
            refused("32 from " + c, BUSY, INDEX, x -> x.wayDirection(c, 4));
            refused("32 to " + c, BUSY, INDEX, x -> x.wayDirection(4, c));
            refused("33 " + c, BUSY, INDEX, x -> x.expectedCost(c));
            refused("37 " + c, BUSY, INDEX, x -> x.carry(c));
        }
    }

    private static void noSuchMark() {
        check.sentence("if there is no such mark");
        for (int mark : beyond(0, 3)) {
            refused("6 " + mark, BUSY, ARGUMENT, x -> x.setMark(4, mark));
            refused("9 mark " + mark, BUSY, INDEX, x -> x.setSensor(mark, 0, 1));
            refused("9 seen " + mark, BUSY, INDEX, x -> x.setSensor(0, mark, 1));
            refused("18 " + mark, BUSY, ARGUMENT, x -> x.see(mark));
        }
    }

    private static void noSuchDirection() {
        check.sentence("if there is no such direction");
        for (int direction : beyond(0, 3)) {
            refused("13 " + direction, BUSY, ARGUMENT, x -> x.motion(4, 4, direction));
            refused("17 " + direction, BUSY, ARGUMENT, x -> x.move(direction));
            refused("35 " + direction, BUSY, ARGUMENT, x -> x.drive(direction));
        }
    }

    private static void outOfRange() {
        check.sentence("if the cost is out of range");
        for (int cost : beyond(1, 9)) {
            refused("7 " + cost, BUSY, ARGUMENT, x -> x.setCost(4, cost));
        }
        check.sentence("if a number is not from 0 to 16, or their sum is greater than 16");
        for (int number : beyond(0, 16)) {
            refused("8 ahead " + number, BUSY, ARGUMENT, x -> x.setMotion(number, 0, 0));
            refused("8 left " + number, BUSY, ARGUMENT, x -> x.setMotion(0, number, 0));
            refused("8 right " + number, BUSY, ARGUMENT, x -> x.setMotion(0, 0, number));
        }
        refused("8 made up for", BUSY, ARGUMENT, x -> x.setMotion(17, -1, 0));
        refused("8 sum 17", BUSY, ARGUMENT, x -> x.setMotion(6, 6, 5));
        refused("8 sum 48", BUSY, ARGUMENT, x -> x.setMotion(16, 16, 16));
        refused("8 a sum that wraps around", BUSY, ARGUMENT,
            x -> x.setMotion(Integer.MAX_VALUE, Integer.MAX_VALUE, 2));
        check.sentence("out of range");
        for (int number : beyond(0, 100)) {
            refused("9 " + number, BUSY, ARGUMENT, x -> x.setSensor(1, 2, number));
            refused("10 " + number, BUSY, ARGUMENT, x -> x.setRate(number));
            refused("11 " + number, BUSY, ARGUMENT, x -> x.setLimit(number));
        }
        for (int percent : beyond(1, 100)) {
            refused("21 " + percent, BUSY, ARGUMENT, x -> x.core(percent));
        }
        check.sentence("if what is not from 0 to ");
        for (int what : beyond(0, 3)) {
            refused("12 " + what, BUSY, ARGUMENT, x -> x.cell(4, what));
        }
        for (int what : beyond(0, 2)) {
            refused("25 " + what, BUSY, ARGUMENT, x -> x.steps(what));
        }
        for (int what : beyond(0, 6)) {
            refused("39 " + what, BUSY, ARGUMENT, x -> x.count(what));
        }
    }

    private static void noSuchIndex() {
        check.sentence("if index is not -1 and there is no such index");
        for (int index : beyond(-1, 10)) {
            refused("14 " + index, BUSY, INDEX, x -> x.map(index));
        }
        check.sentence("if there is no such rank among all cells, walls included");
        for (int rank : beyond(0, 8)) {
            refused("20 " + rank, BUSY, INDEX, x -> x.ranked(rank));
        }
        int steps = busy().steps(0);
        check.sentence("if there is no such step, or there are more than 8");
        for (int index : beyond(0, steps - 1)) {
            refused("26 " + index, BUSY, NONE, x -> x.step(index));
        }
        refused("26 of none", FRESH, NONE, x -> x.step(0));
        check.sentence("if there is no such index");
        for (int index : beyond(0, steps)) {
            refused("29 " + index, BUSY, INDEX, x -> x.path(index));
        }
        refused("29 without steps", FRESH, INDEX, x -> x.path(1));
    }

    private static void badCharacters() {
        check.sentence("if a byte that is not 0 is not from 33 to 126");
        for (int sign : new int[] {1, 32, 127, 128, 255}) {
            for (int shift = 0; shift <= 24; shift += 8) {
                int packed = 0x2e2e2e2e & ~(255 << shift) | sign << shift;
                refused("2 " + Integer.toHexString(packed), BUSY, ARGUMENT, x -> x.append(packed));
            }
        }
    }

    private static RoverLocator filled(int length) {
        return Maps.append(new RoverLocator(), "a".repeat(length));
    }

    private static void tooManyCharacters() {
        check.sentence("if there would be more than 45 characters");
        Scene two = () -> filled(43);
        refused("2 three behind 43", two, STATE, x -> x.append(0x2e2e002e));
        refused("2 four behind 43", two, STATE, x -> x.append(0x2e2e2e2e));
        Scene full = () -> filled(45);
        for (int shift = 0; shift <= 24; shift += 8) {
            int packed = 0x2e << shift;
            refused("2 one more, " + Integer.toHexString(packed), full, STATE, x -> x.append(packed));
        }
    }

    /** But for the buffer and the error position: so the other object has its error before, and the same buffer. */
    private static void badTexts() {
        check.sentence("Throws `IllegalArgumentException` if the text has an error");
        for (String text : new String[] {"", "#", ".x", "./", "..../.../....", "......./"}) {
            check.fails("3 '" + text + "'", ARGUMENT, () -> Maps.append(new RoverLocator(), text).load());
            Scene error = () -> withError(withPast(new RoverLocator()), text);
            Scene before = () -> withPast(withError(new RoverLocator(), text));
            check.due("3 '" + text + "' leaves the rest", Portrait.of(error), Portrait.of(before));
        }
    }

    private static RoverLocator withError(RoverLocator x, String text) {
        Check.outcome(() -> Maps.append(x, text).load());
        return x;
    }

    private static RoverLocator withPast(RoverLocator x) {
        x.setWall(3, true);
        x.setMark(2, 1);
        x.setCost(2, 3);
        x.save();
        x.place(1);
        x.drive(1);
        x.sense();
        return x;
    }

    private static void lastFreeCell() {
        check.sentence("if it would become a wall, and it is the only free cell, or the rover is there");
        Scene lone = () -> Maps.of("##/#.");
        refused("5 the only free cell", lone, STATE, x -> x.setWall(3, true));
        refused("5 the rover is there", BUSY, STATE, x -> x.setWall(x.rover(), true));
        refused("5 the rover was carried there", APART, STATE, x -> x.setWall(0, true));
    }

    private static void walls() {
        check.sentence("Throws `IllegalStateException` if it is a wall");
        for (int wall : new int[] {0, 8}) {
            refused("6 " + wall, BUSY, STATE, x -> x.setMark(wall, 0));
            refused("7 " + wall, BUSY, STATE, x -> x.setCost(wall, 1));
            refused("16 " + wall, BUSY, STATE, x -> x.place(wall));
            refused("33 " + wall, BUSY, STATE, x -> x.expectedCost(wall));
            refused("37 " + wall, BUSY, STATE, x -> x.carry(wall));
            refused("31 from " + wall, BUSY, STATE, x -> x.wayCost(wall, 4));
            refused("31 to " + wall, BUSY, STATE, x -> x.wayCost(4, wall));
            refused("31 itself " + wall, BUSY, STATE, x -> x.wayCost(wall, wall));
            refused("32 from " + wall, BUSY, STATE, x -> x.wayDirection(wall, 4));
            refused("32 to " + wall, BUSY, STATE, x -> x.wayDirection(4, wall));
        }
    }

    private static void unseenMark() {
        check.sentence("Throws `IllegalStateException` if the mark cannot be seen");
        refused("18", BLIND, STATE, x -> x.see(2));
        refused("18 of no cell's mark", FRESH, STATE, x -> x.see(1));
        check.sentence("if this mark cannot be seen; then z stays as it was, too");
        refused("36", BLIND, STATE, x -> x.sense());
    }

    private static void tooManySteps() {
        check.sentence("if there are no exact weights");
        refused("27", NINE, STATE, x -> x.exact(4));
        refused("27 of a wall", NINE, STATE, x -> x.exact(0));
        refused("28", NINE, STATE, x -> x.likely());
        refused("29", NINE, STATE, x -> x.path(0));
        refused("29 the last one", NINE, STATE, x -> x.path(8));
        refused("30", NINE, STATE, x -> x.pathWeight());
        check.sentence("if there is no such step, or there are more than 8");
        refused("26 the first one", NINE, NONE, x -> x.step(0));
        refused("26 the eighth one", NINE, NONE, x -> x.step(7));
    }

    private static void noWay() {
        check.sentence("if there is no way");
        refused("31", APART, NONE, x -> x.wayCost(0, 2));
        refused("31 back", APART, NONE, x -> x.wayCost(2, 0));
        refused("32", APART, NONE, x -> x.wayDirection(0, 2));
        check.sentence("if there is no way, or both cells are the same");
        refused("32 the same", APART, NONE, x -> x.wayDirection(2, 2));
        refused("32 the same, with ways", BUSY, NONE, x -> x.wayDirection(4, 4));
    }

    private static void nothingToTakeBack() {
        check.sentence("Throws `IllegalStateException` if there is none");
        refused("40 at first", FRESH, STATE, x -> x.undo());
        Scene undone = () -> {
            RoverLocator x = busy();
            for (int i = 0; i < 6; i++) {
                x.undo();
            }
            return x;
        };
        refused("40 when all six are taken back", undone, STATE, x -> x.undo());
    }

    private static void nothingSaved() {
        check.sentence("Throws `IllegalStateException` if nothing was saved");
        refused("42 at first", FRESH, STATE, x -> x.restore());
        refused("42 behind changes", BLIND, STATE, x -> x.restore());
    }

    private static void severalExceptions() {
        check.sentence("If several exceptions are possible, the one listed first in the description of the method is");
        refused("2 a bad byte in a full buffer", () -> filled(45), ARGUMENT, x -> x.append(0x2e2e2e20));
        refused("2 a bad byte first", () -> filled(42), ARGUMENT, x -> x.append(0x802e2e2e));
        refused("6 no cell, no mark", BUSY, INDEX, x -> x.setMark(9, 4));
        refused("6 no mark, a wall", BUSY, ARGUMENT, x -> x.setMark(0, -1));
        refused("7 no cell, no cost", BUSY, INDEX, x -> x.setCost(-1, 0));
        refused("7 no cost, a wall", BUSY, ARGUMENT, x -> x.setCost(8, 10));
        refused("9 no mark, no number", BUSY, INDEX, x -> x.setSensor(4, 0, 101));
        refused("9 no seen mark, no number", BUSY, INDEX, x -> x.setSensor(0, -1, -1));
        refused("12 no cell, no property", BUSY, INDEX, x -> x.cell(9, 4));
        refused("13 no cell to go from, no direction", BUSY, INDEX, x -> x.motion(9, 0, 4));
        refused("13 no cell to go to, no direction", BUSY, INDEX, x -> x.motion(0, -1, -1));
        refused("18 no mark, and it cannot be seen", BLIND, ARGUMENT, x -> x.see(4));
        refused("27 no cell, too many steps", NINE, INDEX, x -> x.exact(9));
        refused("29 too many steps, no index", NINE, STATE, x -> x.path(-1));
        refused("29 too many steps, no index above", NINE, STATE, x -> x.path(10));
        refused("31 a wall, no cell", BUSY, INDEX, x -> x.wayCost(0, 9));
        refused("31 no cell, a wall", BUSY, INDEX, x -> x.wayCost(-1, 8));
        refused("31 a wall, so no way", APART, STATE, x -> x.wayCost(0, 1));
        refused("32 a wall, no cell", BUSY, INDEX, x -> x.wayDirection(8, -1));
        refused("32 no cell, a wall", BUSY, INDEX, x -> x.wayDirection(9, 0));
        refused("32 no cell, the same", BUSY, INDEX, x -> x.wayDirection(9, 9));
        refused("32 a wall, so no way", APART, STATE, x -> x.wayDirection(1, 2));
        refused("32 a wall, the same", APART, STATE, x -> x.wayDirection(1, 1));
    }

    /** A refused change makes no room for itself. */
    private static void oldestChangeStays() {
        check.sentence("A method that throws an exception leaves the state unchanged");
        RoverLocator x = new RoverLocator();
        for (int cell = 0; cell < 7; cell++) {
            x.place(cell);
        }
        check.fails("place", INDEX, () -> x.place(12));
        check.fails("move", ARGUMENT, () -> x.move(4));
        check.fails("see", STATE, () -> x.see(3));
        check.fails("load", ARGUMENT, () -> x.load());
        check.due("six are left", x.count(6), 6);
        for (int left = 5; left >= 0; left--) {
            check.due("undo", x.undo(), left);
            check.due("the cell before", x.belief(left), 1000000);
        }
    }
}
