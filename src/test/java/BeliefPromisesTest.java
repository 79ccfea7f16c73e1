/** Promises 15 to 24: setting beliefs, moving, seeing, and what is asked of beliefs. */
public final class BeliefPromisesTest {
    private static final Check check = new Check();
    private static final Class<IndexOutOfBoundsException> INDEX = IndexOutOfBoundsException.class;
    private static final Class<IllegalArgumentException> ARGUMENT = IllegalArgumentException.class;
    private static final Class<IllegalStateException> STATE = IllegalStateException.class;

    public static void main(String[] args) {
        promise15();
        promise16();
        promise17();
        promise17Remainders();
        promise17Rate();
        promise18();
        promise18Restart();
        promise18Limit();
        promise18Unseen();
        promise19();
        promise20();
        promise21();
        promise22And23();
        promise22And23Uneven();
        promise24();
        beliefOfOne();
        check.end("BeliefPromisesTest");
    }

    private static void same(String what, RoverLocator x, String want) {
        check.due(what, Maps.beliefsOf(x), want);
    }

    private static void promise15() {
        RoverLocator x = Maps.of("#../...");
        x.place(3);
        x.move(1);
        check.due("15 free cells", x.spread(), 5);
        same("15 beliefs", x, "0 200000 200000 200000 200000 200000");
        check.due("15 steps", x.steps(0), 0);
        check.due("15 rows begin anywhere", x.exact(1), 1);
        check.due("15 a change", x.count(6), 4);
        same("15 seven", Maps.of("#.../...."), "0 142858 142857 142857 142857 142857 142857 142857");
        same("15 six", Maps.of("..#../##..#"), "166667 166667 0 166667 166667 0 0 166666 166666 0");
        same("15 one", Maps.of("#/d/#"), "0 1000000 0");
    }

    private static void promise16() {
        RoverLocator x = Maps.of("#../...");
        check.fails("16 -1", INDEX, () -> x.place(-1));
        check.fails("16 6", INDEX, () -> x.place(6));
        check.fails("16 a wall", STATE, () -> x.place(0));
        check.due("16 no change", x.count(6), 1);
        x.place(3);
        x.move(0);
        check.due("16 before", x.place(5), 0);
        same("16 beliefs", x, "0 0 0 0 0 1000000");
        check.due("16 steps", x.steps(0), 0);
        check.due("16 rows begin there", x.exact(5), 1);
        check.due("16 and only there", x.exact(4), 0);
        check.due("16 before, again", x.place(5), 1000000);
        check.due("16 from another", x.place(1), 0);
        same("16 beliefs of the other", x, "0 1000000 0 0 0 0");
    }

    private static void promise17() {
        RoverLocator x = Maps.of(".../.#.");
        check.fails("17 -1", ARGUMENT, () -> x.move(-1));
        check.fails("17 4", ARGUMENT, () -> x.move(4));
        check.due("17 no step", x.steps(0), 0);
        check.due("17 no change", x.count(6), 1);
        x.setMotion(8, 4, 3);
        x.place(1);
        check.due("17 greatest", x.move(1), 500000);
        same("17 right, beside the edge and a wall", x, "0 500000 500000 0 0 0");
        check.due("17 greatest again", x.move(2), 375000);
        same("17 down, left of it is right", x, "93750 375000 281250 0 0 250000");
        check.due("17 two steps", x.steps(1), 2);
        check.due("17 changes", x.count(6), 5);
        RoverLocator y = new RoverLocator();
        y.place(5);
        y.move(0);
        check.due("17 up", y.belief(1), 1000000);
        y.move(3);
        check.due("17 left", y.belief(0), 1000000);
        y.move(2);
        check.due("17 down", y.belief(4), 1000000);
        y.move(1);
        check.due("17 right", y.belief(5), 1000000);
    }

    private static void promise17Remainders() {
        RoverLocator x = Maps.of("...");
        x.setMotion(1, 0, 0);
        // 16 * the beliefs: 5000010, 5333329, 5666661, with the remainders 10, 1 and 5 of 16
        check.due("17 the greatest remainder", x.move(1), 354166);
        same("17 the greatest remainder", x, "312501 333333 354166");
        RoverLocator y = Maps.of("...");
        y.setRate(10);
        y.place(0);
        y.move(0);
        same("17 equal remainders", y, "933334 33333 33333");
        y.place(2);
        y.move(0);
        same("17 equal remainders, the lowest cell", y, "33334 33333 933333");
    }

    private static void promise17Rate() {
        RoverLocator x = Maps.of("#..");
        x.setRate(50);
        x.place(1);
        check.due("17 half", x.move(1), 750000);
        same("17 half", x, "0 250000 750000");
        x.setRate(100);
        x.move(1);
        same("17 all", x, "0 500000 500000");
        RoverLocator y = Maps.of("....../....../....../....../....../......");
        y.setRate(1);
        y.place(35);
        check.due("17 36 cells", y.move(1), 990277);
        check.due("17 the first remainders", y.belief(0), 278);
    }

    private static void promise18() {
        RoverLocator x = Maps.of(".b");
        check.fails("18 -1", ARGUMENT, () -> x.see(-1));
        check.fails("18 4", ARGUMENT, () -> x.see(4));
        x.setSensor(0, 1, 25);
        x.setSensor(1, 1, 75);
        check.due("18 no restart", x.see(1), false);
        same("18 beliefs", x, "250000 750000");
        check.due("18 a seen mark", x.steps(2), 1);
        check.due("18 no move", x.steps(1), 0);
        check.due("18 its step", x.step(0), 11);
        check.due("18 changes", x.count(6), 4);
        RoverLocator y = Maps.of(".bbb");
        check.due("18 no restart", y.see(1), false);
        same("18 equal remainders", y, "0 333334 333333 333333");
        y.place(1);
        y.setMark(1, 2);
        y.setSensor(2, 1, 1);
        check.due("18 a small sum", y.see(1), false);
        same("18 scaled", y, "0 1000000 0 0");
        check.due("18 rows begin there still", y.exact(2), 0);
    }

    private static void promise18Restart() {
        RoverLocator x = Maps.of(".b");
        x.place(0);
        x.move(3);
        check.due("18 a restart", x.see(1), true);
        same("18 from the even beliefs", x, "0 1000000");
        check.due("18 counted", x.count(3), 1);
        check.due("18 the first step", x.steps(0), 1);
        check.due("18 is the mark", x.step(0), 11);
        check.due("18 no move", x.steps(1), 0);
        check.due("18 rows begin anywhere", x.exact(1), 100);
        for (int i = 0; i < 9; i++) {
            x.move(3);
        }
        check.fails("18 too many steps", STATE, () -> x.exact(0));
        check.due("18 a restart again", x.see(1), true);
        check.due("18 exact weights again", x.exact(1), 100);
        check.due("18 counted again", x.count(3), 2);
    }

    private static void promise18Limit() {
        RoverLocator x = Maps.of(".b");
        x.setSensor(0, 1, 6);
        x.setLimit(6);
        x.place(0);
        check.due("18 not less", x.see(1), false);
        same("18 not less", x, "1000000 0");
        x.setLimit(7);
        check.due("18 less", x.see(1), true);
        same("18 less", x, "56604 943396");
        RoverLocator y = Maps.of("..");
        y.setLimit(100);
        check.due("18 sure enough", y.see(0), false);
        y.setSensor(0, 0, 50);
        y.place(0);
        check.due("18 the even beliefs may have less, too", y.see(0), true);
        same("18 even", y, "500000 500000");
        check.due("18 and once more", y.see(0), true);
        check.due("18 restarts", y.count(3), 2);
        RoverLocator z = Maps.of("...");
        z.setSensor(0, 0, 99);
        z.setLimit(99);
        check.due("18 equal to the limit", z.see(0), false);
    }

    private static void promise18Unseen() {
        RoverLocator x = Maps.of(".b");
        x.place(0);
        x.move(3);
        check.fails("18 cannot be seen", STATE, () -> x.see(2));
        same("18 the beliefs stay", x, "1000000 0");
        check.due("18 the steps stay", x.steps(0), 1);
        check.due("18 no restart", x.count(3), 0);
        check.due("18 no change", x.count(6), 3);
        check.due("18 rows begin there still", x.exact(1), 0);
    }

    private static void promise19() {
        RoverLocator x = Maps.of("#../...");
        check.fails("19 -1", INDEX, () -> x.belief(-1));
        check.fails("19 6", INDEX, () -> x.belief(6));
        check.due("19 a wall", x.belief(0), 0);
        check.due("19 a cell", x.belief(5), 200000);
        RoverLocator y = new RoverLocator();
        check.due("19 before", y.belief(11), 83333);
        Maps.append(y, ".");
        y.load();
        check.due("19 all", y.belief(0), 1000000);
        check.fails("19 1 of 1", INDEX, () -> y.belief(1));
    }

    private static void ranks(String what, RoverLocator x, int... want) {
        for (int rank = 0; rank < want.length; rank++) {
            check.due(what + " rank " + rank, x.ranked(rank), want[rank]);
        }
        check.fails(what + " too far", INDEX, () -> x.ranked(want.length));
        check.fails(what + " -1", INDEX, () -> x.ranked(-1));
    }

    private static void promise20() {
        RoverLocator x = Maps.of("....");
        ranks("20 even", x, 0, 1, 2, 3);
        x.place(2);
        ranks("20 placed", x, 2, 0, 1, 3);
        ranks("20 walls are last", Maps.of("#..#/..##"), 1, 2, 4, 5, 0, 3, 6, 7);
        RoverLocator placed = Maps.of("#..#/..##");
        placed.place(4);
        ranks("20 walls as cells without belief", placed, 4, 0, 1, 2, 3, 5, 6, 7);
        ranks("20 a single cell", Maps.of("."), 0);
        RoverLocator great = Maps.of(Maps.free(6, 6));
        great.place(35);
        check.due("20 the last cell first", great.ranked(0), 35);
        check.due("20 the first cell behind it", great.ranked(1), 0);
        check.due("20 the last rank", great.ranked(35), 34);
        RoverLocator y = Maps.of("abcd");
        y.setSensor(0, 0, 10);
        y.setSensor(1, 0, 30);
        y.setSensor(2, 0, 10);
        y.setSensor(3, 0, 40);
        y.see(0);
        ranks("20 descending", y, 3, 1, 0, 2);
    }

    private static void promise21() {
        RoverLocator x = Maps.of("....");
        check.fails("21 0", ARGUMENT, () -> x.core(0));
        check.fails("21 101", ARGUMENT, () -> x.core(101));
        check.fails("21 -1", ARGUMENT, () -> x.core(-1));
        int[][] want = {{1, 1}, {25, 1}, {26, 2}, {50, 2}, {51, 3}, {75, 3}, {76, 4}, {100, 4}};
        for (int[] w : want) {
            check.due("21 quarters " + w[0], x.core(w[0]), w[1]);
        }
        RoverLocator y = Maps.of(".#..");
        check.due("21 thirds 33", y.core(33), 1);
        check.due("21 thirds 34", y.core(34), 2);
        check.due("21 thirds 66", y.core(66), 2);
        check.due("21 thirds 67", y.core(67), 3);
        check.due("21 thirds 100", y.core(100), 3);
        y.place(3);
        check.due("21 one", y.core(100), 1);
        check.due("21 one for the least share", y.core(1), 1);
        RoverLocator great = Maps.of(Maps.free(6, 6));
        check.due("21 all of 36", great.core(100), 36);
        check.due("21 all but one of 36", great.core(97), 35);
        check.due("21 one of 36 for the least share", great.core(1), 1);
        check.due("21 one of 36", great.core(2), 1);
        check.due("21 two of 36", great.core(3), 2);
    }

    private static void bits(String what, RoverLocator x, double doubt, float share) {
        check.due("22 " + what, x.doubtBits(), Double.doubleToLongBits(doubt));
        check.due("23 " + what, x.shareBits(), Float.floatToIntBits(share));
    }

    private static void promise22And23() {
        bits("one", Maps.of("."), 0.0, 1.0f);
        bits("two", Maps.of(".."), 0.5, 0.5f);
        bits("four", Maps.of("..../####"), 0.75, 0.25f);
        double a = 0.333334;
        double b = 0.333333;
        bits("three", Maps.of("..."), 1.0 - (a * a + b * b + b * b), 333334.0f / 1000000.0f);
        RoverLocator x = Maps.of("....../....../....../....../....../......");
        double sum = 0.0;
        for (int cell = 0; cell < 36; cell++) {
            double share = cell < 28 ? 27778 / 1000000.0 : 27777 / 1000000.0;
            sum = sum + share * share;
        }
        bits("36", x, 1.0 - sum, 27778 / 1000000.0f);
        RoverLocator y = Maps.of("..");
        y.setRate(1);
        y.place(1);
        y.move(1);
        double c = 0.005;
        double d = 0.995;
        bits("ascending", y, 1.0 - (c * c + d * d), 0.995f);
        y.setRate(0);
        y.setMotion(0, 0, 0);
        y.setSensor(0, 0, 1);
        y.setMark(1, 1);
        for (int i = 0; i < 3; i++) {
            y.setSensor(1, 0, 100);
            y.see(0);
        }
        double low = y.belief(0) / 1000000.0;
        double high = y.belief(1) / 1000000.0;
        bits("nearly sure", y, 1.0 - (low * low + high * high), y.belief(1) / 1000000.0f);
    }

    /** Each belief is divided before it is squared, and the squares are added from the first cell on. */
    private static void promise22And23Uneven() {
        for (int i = 1; i <= 100; i++) {
            RoverLocator x = Maps.of("abcd");
            x.setSensor(0, 0, i);
            x.setSensor(1, 0, 101 - i);
            x.setSensor(2, 0, i * 37 % 101);
            x.setSensor(3, 0, i * i % 101);
            x.see(0);
            double sum = 0.0;
            int greatest = 0;
            for (int cell = 0; cell < 4; cell++) {
                double share = (double) x.belief(cell) / 1000000.0;
                sum = sum + share * share;
                greatest = Math.max(greatest, x.belief(cell));
            }
            bits("uneven " + i, x, 1.0 - sum, (float) greatest / 1000000.0f);
        }
    }

    private static void promise24() {
        RoverLocator x = Maps.of(".b");
        check.due("24 all the same", x.promising(), 0);
        x.setSensor(1, 1, 50);
        check.due("24 where marks are surer", x.promising(), 3);
        x.setLimit(100);
        check.due("24 found without a restart", x.promising(), 3);
        check.due("24 the beliefs stay", x.belief(1), 500000);
        check.due("24 no step", x.steps(0), 0);
        check.due("24 no change", x.count(6), 3);
        x.setRate(100);
        check.due("24 carried away all the same", x.promising(), 0);
        RoverLocator y = Maps.of(".b");
        y.setSensor(0, 0, 50);
        check.due("24 right", y.promising(), 1);
        y.setSensor(0, 1, 50);
        // Seen mark 1 now comes from both cells, but only its greatest weight counts.
        check.due("24 right all the same", y.promising(), 1);
        RoverLocator z = Maps.of("./b/.");
        z.setSensor(0, 0, 10);
        z.place(0);
        check.due("24 down", z.promising(), 2);
        z.place(2);
        check.due("24 up", z.promising(), 0);
        promise24Marks();
        promise24Greatest();
        promise24Limit();
        promise24Scaled();
    }

    /** Staying as it is, neither mark reaches the limit, but both together promise as much as one that does. */
    private static void promise24Limit() {
        RoverLocator x = Maps.of(".b");
        x.setLimit(60);
        check.due("24 both below the limit", x.promising(), 0);
        x.setLimit(0);
        check.due("24 one of them never seen in the other cell", x.promising(), 0);
    }

    /** Up, the beliefs become 117187.5 and 882812.5, which are rounded to the whole; right, 15625 and 984375. */
    private static void promise24Scaled() {
        RoverLocator x = Maps.of(".b");
        x.setMotion(14, 0, 1);
        x.place(0);
        x.move(1);
        same("24 before", x, "125000 875000");
        check.due("24 all promise the same", x.promising(), 0);
        x.move(0);
        same("24 up", x, "117188 882812");
    }

    /** Each of the four marks counts once, also the last one. */
    private static void promise24Marks() {
        for (int mark = 1; mark < 4; mark++) {
            RoverLocator x = Maps.of(".#./.." + "abcd".charAt(mark));
            x.place(4);
            x.setSensor(0, 0, 40);
            x.setSensor(mark, mark, 0);
            check.due("24 nothing to be seen there", x.promising(), 0);
            for (int seen = 0; seen < 4; seen++) {
                x.setSensor(mark, seen, 10);
            }
            check.due("24 four tens are not more", x.promising(), 0);
            x.setSensor(mark, 3, 11);
            check.due("24 one more is", x.promising(), 1);
        }
        RoverLocator none = new RoverLocator();
        none.setSensor(0, 0, 0);
        check.due("24 nothing can be seen anywhere", none.promising(), 0);
    }

    private static void promise24Greatest() {
        RoverLocator x = Maps.of("....../....../....../....../....b./.....d");
        x.setSensor(0, 0, 50);
        x.setSensor(1, 1, 0);
        x.place(34);
        check.due("24 right to the last cell", x.promising(), 1);
        x.place(29);
        check.due("24 down to the last cell", x.promising(), 2);
        x.setSensor(1, 2, 51);
        x.setSensor(1, 3, 50);
        check.due("24 left to the other one", x.promising(), 3);
        x.place(35);
        check.due("24 where it stays", x.promising(), 1);
    }

    /** The least belief there can be counts like any other. */
    private static void beliefOfOne() {
        RoverLocator x = Maps.of(".b");
        x.setSensor(0, 0, 1);
        x.setSensor(1, 0, 100);
        x.see(0);
        x.see(0);
        x.see(0);
        same("18 nearly nothing", x, "1 999999");
        x.move(0);
        same("17 nearly nothing", x, "1 999999");
        check.due("21 all but one", x.core(100), 2);
        check.due("21 less", x.core(99), 1);
        check.due("33 just below", x.expectedCost(0), 0);
        x.setSensor(1, 0, 0);
        check.due("18 a sum of 1 is no restart", x.see(0), false);
        same("18 scaled", x, "1000000 0");
    }
}
