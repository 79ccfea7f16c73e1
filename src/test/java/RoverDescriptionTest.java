/** The paragraphs Rover and Changes, and the number of calls, where they name a bound or a case at the edge. */
public final class RoverDescriptionTest {
    interface Change {
        void on(RoverLocator x);
    }

    private static final Check check = new Check();
    private static final Class<IllegalStateException> STATE = IllegalStateException.class;
    private static final int WHOLE = 1000000;

    /** Each kind of change, on six cells with a wall at 2; none of them changes anything that was there at first. */
    private static final Change[] CHANGES = {
        x -> x.load(), x -> x.setWall(2, true), x -> x.setMark(0, 0), x -> x.setCost(0, 1), x -> x.setMotion(16, 0, 0),
        x -> x.setSensor(0, 0, 100), x -> x.setRate(0), x -> x.setLimit(0), x -> x.spread(), x -> x.place(0),
        x -> x.move(0), x -> x.see(0), x -> x.drive(0), x -> x.sense(), x -> x.carry(0), x -> x.seed(1),
        x -> x.restore(),
    };

    public static void main(String[] args) {
        calls();
        roverInAFreeCell();
        numberAtFirst();
        drawing();
        drawingBelowOtherSums();
        eachIsAChange();
        noneIsAChange();
        atMostSix();
        onlyWithoutAnException();
        check.end("RoverDescriptionTest");
    }

    private static void calls() {
        check.sentence("An object is used for at most 512 calls after it has been made");
        RoverLocator x = new RoverLocator();
        for (int call = 1; call < 510; call++) {
            x.move(call % 4);
        }
        check.due("call 510", x.steps(0), 509);
        check.due("call 511", x.undo(), 5);
        check.due("call 512", x.steps(1), 508);
    }

    private static void roverInAFreeCell() {
        check.sentence("There is a simulated rover in a free cell, at first in cell 0.");
        RoverLocator x = new RoverLocator();
        check.due("at first", x.rover(), 0);
        check.fails("no wall there", STATE, () -> x.setWall(0, true));
        x.setWall(1, true);
        x.setWall(4, true);
        for (int i = 0; i < 8; i++) {
            check.due("between walls", x.drive(i % 4), 0);
        }
        Maps.append(x, "##/#./..");
        x.load();
        check.due("not on a wall of a new map", x.rover(), 3);
        check.fails("nor carried there", STATE, () -> x.carry(0));
        x.save();
        x.carry(5);
        x.setWall(3, true);
        x.restore();
        check.due("restored", x.rover(), 3);
        check.due("and free", x.cell(3, 0), 0);
        x.undo();
        check.due("taken back", x.rover(), 5);
        check.due("and a wall again", x.cell(3, 0), 1);
    }

    private static void numberAtFirst() {
        check.sentence("There is a number z, an int, 1 at first.");
        RoverLocator x = new RoverLocator();
        check.due("at first", x.seed(Integer.MIN_VALUE), 1);
        check.due("the least", x.seed(Integer.MAX_VALUE), Integer.MIN_VALUE);
        check.due("the greatest", x.seed(0), Integer.MAX_VALUE);
        check.due("0", x.seed(-1), 0);
        check.due("-1", x.seed(1), -1);
    }

    private static long nextNumber(long z) {
        long next = (z * 1103515245L + 12345L) & 0xffffffffL;
        return next >= 0x80000000L ? next - 0x100000000L : next;
    }

    private static long drawn(long z, int below) {
        return ((nextNumber(z) & 0xffffffffL) >> 16) % below;
    }

    private static final int[] SEEDS = {0, 1, -1, 2, Integer.MAX_VALUE, Integer.MIN_VALUE, 65535, 65536, -65536,
        12345, -12345, 1103515245, -1103515245, 0x7fff0000, 0x5a5a5a5a, -123456789};

    private static void drawing() {
        check.sentence("z becomes z * 1103515245 + 12345, with overflow, and the drawn number is (z >>> 16) % m");
        int[] around = {1, 5, 7, 3};
        for (int z : SEEDS) {
            RoverLocator x = Maps.of(Maps.free(3, 3));
            x.setMotion(5, 4, 3);
            x.seed(z);
            long due = z;
            for (int i = 0; i < 8; i++) {
                long number = drawn(due, 16);
                int turn = number < 5 ? 0 : number < 9 ? 3 : 1;
                x.carry(4);
                check.due("from " + due, x.drive(i % 4), number < 12 ? around[(i + turn) % 4] : 4);
                due = nextNumber(due);
            }
            check.due("z behind " + z, x.seed(0), due);
        }
    }

    private static void drawingBelowOtherSums() {
        check.sentence("z becomes z * 1103515245 + 12345, with overflow, and the drawn number is (z >>> 16) % m");
        int[][] tables = {{1, 0, 0, 0}, {1, 1, 0, 0}, {0, 1, 1, 1}, {100, 100, 100, 100}, {7, 0, 13, 1}, {0, 0, 0, 9}};
        for (int z : SEEDS) {
            for (int[] table : tables) {
                RoverLocator x = new RoverLocator();
                int sum = 0;
                for (int seen = 0; seen < 4; seen++) {
                    x.setSensor(0, seen, table[seen]);
                    sum += table[seen];
                }
                x.seed(z);
                long rest = drawn(z, sum);
                int want = 0;
                while (rest >= table[want]) {
                    rest -= table[want];
                    want++;
                }
                check.due("from " + z + " below " + sum, x.sense(), want);
                check.due("z behind " + z, x.seed(0), nextNumber(z));
            }
        }
    }

    private static RoverLocator readyForChanges() {
        RoverLocator x = Maps.of("..#/...");
        x.save();
        return Maps.append(x, "..#/...");
    }

    private static void eachIsAChange() {
        check.sentence("The changes are the calls without an exception of load, setWall, setMark");
        for (int kind = 0; kind < CHANGES.length; kind++) {
            RoverLocator x = readyForChanges();
            int before = x.count(6);
            CHANGES[kind].on(x);
            check.due("kind " + kind, x.count(6), before + 1);
            check.due("kind " + kind + " taken back", x.undo(), before);
        }
    }

    private static void noneIsAChange() {
        check.sentence("The changes are the calls without an exception of load, setWall, setMark");
        Change[] others = {
            x -> x.append(0x2e2e2e2e), x -> x.append(0), x -> x.save(), x -> x.errorPosition(), x -> x.cell(0, 0),
            x -> x.motion(0, 1, 1), x -> x.map(0), x -> x.belief(0), x -> x.ranked(0), x -> x.core(50),
            x -> x.doubtBits(), x -> x.shareBits(), x -> x.promising(), x -> x.steps(0), x -> x.exact(0),
            x -> x.likely(), x -> x.path(0), x -> x.pathWeight(), x -> x.wayCost(0, 5), x -> x.wayDirection(0, 5),
            x -> x.expectedCost(0), x -> x.rover(), x -> x.count(6),
        };
        for (int kind = 0; kind < others.length; kind++) {
            RoverLocator x = readyForChanges();
            x.place(1);
            x.place(3);
            int before = x.count(6);
            others[kind].on(x);
            check.due("kind " + kind, x.count(6), before);
            check.due("kind " + kind + ", what undo takes back", x.undo(), before - 1);
            check.due("kind " + kind + ", the cell before", x.belief(1), WHOLE);
        }
    }

    private static void atMostSix() {
        check.sentence("At most 6 of them can be taken back by undo; older ones are forgotten.");
        for (int changes = 0; changes <= 11; changes++) {
            RoverLocator x = new RoverLocator();
            for (int cell = 0; cell < changes; cell++) {
                x.place(cell);
            }
            int left = Math.min(changes, 6);
            check.due("of " + changes, x.count(6), left);
            for (int back = 1; back <= left; back++) {
                check.due("undo " + back + " of " + changes, x.undo(), left - back);
                int cell = changes - back - 1;
                check.due("before " + (cell + 1), x.belief(Math.max(cell, 0)), cell < 0 ? 83334 : WHOLE);
            }
            check.fails("older ones of " + changes, STATE, () -> x.undo());
            x.place(11);
            check.due("a new one", x.count(6), 1);
        }
    }

    private static void onlyWithoutAnException() {
        check.sentence("The changes are the calls without an exception");
        RoverLocator x = readyForChanges();
        x.load();
        int before = x.count(6);
        Change[] refused = {
            y -> y.load(), y -> y.setWall(0, true), y -> y.setMark(2, 0), y -> y.setCost(2, 1),
            y -> y.setMotion(16, 1, 0), y -> y.setSensor(0, 0, 101), y -> y.setRate(101), y -> y.setLimit(-1),
            y -> y.place(2), y -> y.move(4), y -> y.see(3), y -> y.drive(-1), y -> y.carry(2),
        };
        for (int kind = 0; kind < refused.length; kind++) {
            Change call = refused[kind];
            check.due("refused " + kind, Check.outcome(() -> {
                call.on(x);
                return 0;
            }).endsWith("Exception"), true);
            check.due("kind " + kind, x.count(6), before);
        }
        RoverLocator fresh = new RoverLocator();
        check.fails("restore", STATE, () -> fresh.restore());
        check.due("restore", fresh.count(6), 0);
        fresh.setSensor(0, 0, 0);
        check.fails("sense", STATE, () -> fresh.sense());
        check.due("sense", fresh.count(6), 1);
    }
}
