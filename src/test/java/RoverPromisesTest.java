/** Promises 34 to 42: the rover, counts, undo and snapshots. */
public final class RoverPromisesTest {
    private static final Check check = new Check();
    private static final Class<IndexOutOfBoundsException> INDEX = IndexOutOfBoundsException.class;
    private static final Class<IllegalArgumentException> ARGUMENT = IllegalArgumentException.class;
    private static final Class<IllegalStateException> STATE = IllegalStateException.class;

    public static void main(String[] args) {
        promise34();
        promise35();
        promise36();
        promise36Unseen();
        promise37And38();
        promise39();
        promise40();
        promise40Each();
        promise40Greatest();
        promise41And42();
        promise42Each();
        check.end("RoverPromisesTest");
    }

    private static void promise34() {
        RoverLocator x = new RoverLocator();
        check.due("34 at first", x.seed(-5), 1);
        check.due("34 then", x.seed(Integer.MAX_VALUE), -5);
        check.due("34 a change", x.count(6), 2);
        x.seed(1);
        x.drive(0);
        check.due("34 the next number", x.seed(0), 1103527590);
        x.drive(0);
        check.due("34 behind 0", x.seed(0), 12345);
    }

    private static RoverLocator inTheMiddle(int z, int ahead, int left, int right) {
        RoverLocator x = Maps.of(".../.../...");
        x.carry(4);
        x.seed(z);
        x.setMotion(ahead, left, right);
        return x;
    }

    private static void promise35() {
        // From z = 1 the number drawn below 16 is 6, from z = -1 it is 9.
        check.due("35 ahead", inTheMiddle(1, 7, 0, 0).drive(1), 5);
        check.due("35 left", inTheMiddle(1, 6, 1, 0).drive(1), 1);
        check.due("35 right", inTheMiddle(1, 6, 0, 1).drive(1), 7);
        check.due("35 left of up", inTheMiddle(1, 0, 7, 9).drive(0), 3);
        check.due("35 right of left", inTheMiddle(1, 3, 3, 1).drive(3), 1);
        check.due("35 stay", inTheMiddle(1, 3, 2, 1).drive(2), 4);
        check.due("35 no sign", inTheMiddle(-1, 9, 1, 0).drive(2), 5);
        check.due("35 no sign, one less", inTheMiddle(-1, 9, 0, 1).drive(2), 3);
        RoverLocator x = inTheMiddle(1, 16, 0, 0);
        check.fails("35 -1", ARGUMENT, () -> x.drive(-1));
        check.fails("35 4", ARGUMENT, () -> x.drive(4));
        check.due("35 no change", x.count(6), 4);
        check.due("35 no draw", x.seed(1), 1);
        x.place(4);
        check.due("35 up", x.drive(0), 1);
        check.due("35 the beliefs move", x.belief(1), 1000000);
        check.due("35 against the edge", x.drive(0), 1);
        check.due("35 steps", x.steps(1), 2);
        check.due("35 hits", x.count(4), 2);
        x.carry(8);
        check.due("35 left", x.drive(3), 7);
        check.due("35 no hit", x.count(4), 2);
        RoverLocator y = Maps.of(".#/..");
        check.due("35 against a wall", y.drive(1), 0);
        y.setRate(50);
        y.place(0);
        y.drive(1);
        check.due("35 the rate counts for the beliefs", y.belief(0), 666667);
    }

    private static void promise36() {
        RoverLocator x = Maps.of(".b");
        x.setSensor(0, 0, 10);
        x.setSensor(0, 1, 20);
        x.setSensor(0, 2, 30);
        x.setSensor(0, 3, 40);
        // From z = 1 the number drawn is 16838, 38 below 100.
        check.due("36 below 100", x.sense(), 2);
        check.due("36 its z", x.seed(1), 1103527590);
        check.due("36 its step", x.step(0), 12);
        check.due("36 its beliefs", x.belief(0), 1000000);
        x.setSensor(0, 0, 38);
        check.due("36 38 below 128 and 16838 % 128 = 70", x.sense(), 2);
        x.seed(1);
        x.setSensor(0, 0, 0);
        check.due("36 16838 % 90 = 8", x.sense(), 1);
        x.seed(1);
        x.setSensor(0, 1, 8);
        check.due("36 16838 % 78 = 68", x.sense(), 3);
        x.seed(1);
        x.setSensor(0, 0, 38);
        x.setSensor(0, 1, 20);
        x.setSensor(0, 2, 2);
        check.due("36 38 below 100 again, not less than the first sum", x.sense(), 1);
        RoverLocator y = Maps.of(".b");
        y.carry(1);
        check.due("36 the mark of the rover's cell", y.sense(), 1);
        check.due("36 a hit", y.count(4), 1);
        check.due("36 seen marks", y.steps(2), 1);
        y.place(0);
        check.due("36 with a restart", y.sense(), 1);
        check.due("36 the restart counts", y.count(3), 1);
        check.due("36 another hit", y.count(4), 2);
        y.setSensor(1, 1, 0);
        y.setSensor(1, 0, 1);
        check.due("36 a wrong mark", y.sense(), 0);
        check.due("36 no hit, no restart", y.count(4) * 10 + y.count(3), 31);
    }

    private static void promise36Unseen() {
        RoverLocator x = Maps.of(".b");
        x.setSensor(0, 0, 0);
        x.seed(9);
        check.fails("36 cannot be seen", STATE, () -> x.sense());
        check.due("36 z stays", x.seed(9), 9);
        check.due("36 no step", x.steps(0), 0);
        check.due("36 no hit", x.count(4), 0);
        check.due("36 no change", x.count(6), 4);
        x.setSensor(1, 0, 5);
        check.due("36 sees its mark where another has it", x.sense(), 0);
        check.due("36 no number drawn", x.seed(9), 9);
        check.due("36 far from the rover", x.belief(1), 1000000);
        check.due("36 still no hit", x.count(4), 0);
        for (int mark = 0; mark < 4; mark++) {
            RoverLocator y = Maps.of("abcda".substring(mark, mark + 2));
            y.setSensor(mark, mark, 0);
            y.setSensor((mark + 1) % 4, mark, 1);
            check.due("36 the mark itself where its sum is 0", y.sense(), mark);
            check.due("36 z stays", y.seed(0), 1);
            y.setSensor((mark + 1) % 4, mark, 0);
            check.fails("36 not even that", STATE, () -> y.sense());
        }
    }

    private static void promise37And38() {
        RoverLocator x = Maps.of("#./..");
        check.due("38 the lowest free cell", x.rover(), 1);
        check.fails("37 -1", INDEX, () -> x.carry(-1));
        check.fails("37 4", INDEX, () -> x.carry(4));
        check.fails("37 a wall", STATE, () -> x.carry(0));
        check.due("37 no change", x.count(6), 1);
        x.place(1);
        x.move(2);
        check.due("37 previous", x.carry(2), 1);
        check.due("38 there", x.rover(), 2);
        check.due("37 the beliefs stay", x.belief(3), 1000000);
        check.due("37 the steps stay", x.steps(0), 1);
        check.due("37 to the same cell", x.carry(2), 2);
        check.due("37 changes", x.count(6), 5);
        x.place(3);
        check.due("38 place leaves it", x.rover(), 2);
        x.move(0);
        check.due("38 move leaves it", x.rover(), 2);
    }

    private static void promise39() {
        RoverLocator x = Maps.of("#bc/...");
        check.fails("39 -1", ARGUMENT, () -> x.count(-1));
        check.fails("39 7", ARGUMENT, () -> x.count(7));
        check.due("39 width", x.count(0), 3);
        check.due("39 height", x.count(1), 2);
        check.due("39 free cells", x.count(2), 5);
        x.place(3);
        x.see(1);
        check.due("39 restarts", x.count(3), 1);
        check.due("39 see counts no hit", x.count(4), 0);
        x.sense();
        check.due("39 hits", x.count(4), 1);
        Maps.append(x, "...");
        check.due("39 buffer", x.count(5), 3);
        check.due("39 changes", x.count(6), 4);
        for (int i = 0; i < 10; i++) {
            x.spread();
        }
        check.due("39 at most six", x.count(6), 6);
        x.setWall(5, true);
        check.due("39 a wall more", x.count(2), 4);
        // Of equal beliefs the lowest cell has rank 0.
        RoverLocator y = Maps.of("..");
        y.sense();
        check.due("39 rank 0 of equals", y.count(4), 1);
        y.carry(1);
        y.sense();
        check.due("39 not rank 1", y.count(4), 1);
    }

    private static void promise40() {
        RoverLocator x = new RoverLocator();
        check.fails("40 none", STATE, () -> x.undo());
        for (int cell = 0; cell < 9; cell++) {
            x.place(cell);
        }
        for (int left = 5; left >= 0; left--) {
            check.due("40 left", x.undo(), left);
            check.due("40 the one before", x.belief(left + 2), 1000000);
            check.due("40 counted", x.count(6), left);
        }
        check.fails("40 older ones are forgotten", STATE, () -> x.undo());
        check.due("40 it stays", x.belief(2), 1000000);
        x.place(7);
        x.place(8);
        x.undo();
        x.place(9);
        check.due("40 an undone one is gone", x.undo(), 1);
        check.due("40 back to 7", x.belief(7), 1000000);
        check.due("40 back to 2", x.undo(), 0);
        check.due("40 back to 2", x.belief(2), 1000000);
        RoverLocator y = new RoverLocator();
        Maps.append(y, "./");
        check.fails("40 load", ARGUMENT, () -> y.load());
        y.spread();
        Maps.append(y, ".b");
        y.load();
        Maps.append(y, "..#");
        y.undo();
        check.due("40 not the buffer", y.count(5), 3);
        check.due("40 not the error position", y.errorPosition(), -1);
        check.due("40 the grid", y.count(2), 12);
        y.save();
        y.place(3);
        y.save();
        y.undo();
        y.restore();
        check.due("40 not what is saved", y.belief(3), 1000000);
    }

    /** Each kind of change by itself, taken back. */
    private static void promise40Each() {
        for (int kind = 0; kind < 17; kind++) {
            RoverLocator x = Maps.of(".b#/c..");
            x.setMotion(9, 0, 3);
            x.place(4);
            x.save();
            x.move(1);
            Maps.append(x, "../..");
            String before = Portrait.now(x);
            int changes = x.count(6);
            change(x, kind);
            check.due("40 kind " + kind + " counts", x.count(6), changes + 1);
            check.due("40 kind " + kind + " is seen", Portrait.now(x).equals(before), false);
            check.due("40 kind " + kind + " left", x.undo(), changes);
            check.due("40 kind " + kind + " is back", Portrait.now(x), before);
        }
    }

    /** The last cells and steps of the greatest grid come back, too. */
    private static void promise40Greatest() {
        RoverLocator x = Maps.of("....../....../....../....../....../.....b");
        for (int i = 0; i < 8; i++) {
            x.see(1);
        }
        x.save();
        x.setWall(34, true);
        check.due("40 a wall beside the last cell", x.cell(35, 3), 1);
        for (int i = 0; i < 8; i++) {
            x.drive(1);
        }
        x.restore();
        check.due("42 the last cell's neighbors", x.cell(35, 3), 2);
        check.due("42 all steps' numbers", x.exact(35), 10000000000000000L);
        check.due("42 the last step", x.step(7), 11);
        check.due("42 a ninth step", x.see(1), false);
        check.due("42 nine steps", x.steps(2), 9);
        x.undo();
        check.due("40 eight steps", x.pathWeight(), 10000000000000000L);
        x.setWall(34, true);
        x.undo();
        check.due("40 the last cell's neighbors", x.cell(35, 3), 2);
        check.due("40 all steps' numbers", x.exact(35), 10000000000000000L);
    }

    private static void change(RoverLocator x, int kind) {
        switch (kind) {
            case 0 -> x.load();
            case 1 -> x.setWall(2, false);
            case 2 -> x.setMark(1, 3);
            case 3 -> x.setCost(1, 3);
            case 4 -> x.setMotion(4, 5, 6);
            case 5 -> x.setSensor(1, 1, 1);
            case 6 -> x.setRate(12);
            case 7 -> x.setLimit(13);
            case 8 -> x.spread();
            case 9 -> x.place(5);
            case 10 -> x.move(3);
            case 11 -> x.see(2);
            case 12 -> x.drive(0);
            case 13 -> x.sense();
            case 14 -> x.carry(1);
            case 15 -> x.seed(99);
            default -> x.restore();
        }
    }

    private static void promise41And42() {
        RoverLocator x = Maps.of(".#b");
        check.fails("42 nothing saved", STATE, () -> x.restore());
        check.due("42 no change", x.count(6), 1);
        x.place(2);
        check.due("41 free cells", x.save(), 2);
        check.due("41 no change", x.count(6), 2);
        x.setWall(1, false);
        check.due("42 free cells", x.restore(), 2);
        check.due("42 a change", x.count(6), 4);
        check.due("42 the beliefs", x.belief(2), 1000000);
        x.place(0);
        Maps.append(x, "..");
        check.due("42 once more", x.restore(), 2);
        check.due("42 not the buffer", x.count(5), 2);
        check.due("42 the beliefs again", x.belief(2), 1000000);
        x.load();
        Maps.append(x, "?");
        check.fails("42 an error", ARGUMENT, () -> x.load());
        check.due("41 replaces", x.save(), 2);
        x.setWall(1, true);
        check.due("42 what was saved last", x.restore(), 2);
        check.due("42 not the error position", x.errorPosition(), 0);
        check.due("42 the grid", x.count(0), 2);
        check.due("42 undone", x.undo(), 5);
        check.due("42 undone", x.count(2), 1);
    }

    /** Each kind of change by itself, and what was saved before it restored. */
    private static void promise42Each() {
        for (int kind = 0; kind < 16; kind++) {
            RoverLocator x = Maps.of(".b#/c..");
            x.setMotion(9, 0, 3);
            x.carry(4);
            x.place(4);
            x.move(1);
            x.seed(4);
            Maps.append(x, "../..");
            String before = Portrait.now(x);
            x.save();
            change(x, kind);
            x.setCost(0, 9);
            x.spread();
            x.see(0);
            x.restore();
            check.due("42 kind " + kind + " is back", Portrait.now(x), before);
        }
    }
}
