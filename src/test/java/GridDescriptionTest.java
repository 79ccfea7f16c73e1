/** The paragraphs Grid, Tables and Texts, sentence by sentence, where they name a bound or a case at the edge. */
public final class GridDescriptionTest {
    private static final Check check = new Check();
    private static final Class<IllegalArgumentException> ARGUMENT = IllegalArgumentException.class;
    private static final Class<IllegalStateException> STATE = IllegalStateException.class;
    private static final int WHOLE = 1000000;

    public static void main(String[] args) {
        sizes();
        numbering();
        marksAndCosts();
        atFirst();
        oneFreeCell();
        leftAndRight();
        neighbors();
        motionTable();
        motionWeights();
        sensorTable();
        buffer();
        characters();
        shapes();
        errorPositions();
        onlyWalls();
        check.end("GridDescriptionTest");
    }

    private static void sizes() {
        check.sentence("The grid has a width and a height from 1 to 6, at first 4 and 3.");
        RoverLocator first = new RoverLocator();
        check.due("width at first", first.count(0), 4);
        check.due("height at first", first.count(1), 3);
        for (int width = 1; width <= 6; width++) {
            for (int height = 1; height <= 6; height++) {
                RoverLocator x = Maps.of(Maps.free(width, height));
                check.due("width " + width + " of " + height, x.count(0), width);
                check.due("height " + height + " of " + width, x.count(1), height);
                check.due("cells " + width + " by " + height, x.count(2), width * height);
            }
        }
        for (int i = 1; i <= 5; i++) {
            RoverLocator wide = Maps.append(new RoverLocator(), Maps.free(7, i));
            check.fails("width 7", ARGUMENT, () -> wide.load());
            RoverLocator high = Maps.append(new RoverLocator(), Maps.free(i, 7));
            check.fails("height 7", ARGUMENT, () -> high.load());
        }
    }

    private static void numbering() {
        check.sentence("Its cells are numbered from 0 row by row, from left to right.");
        for (int cell = 0; cell < 20; cell++) {
            StringBuilder map = new StringBuilder(Maps.free(5, 4));
            map.setCharAt(cell / 5 * 6 + cell % 5, 'd');
            RoverLocator x = Maps.of(map.toString());
            for (int other = 0; other < 20; other++) {
                check.due("the mark of " + other + " with " + map, x.cell(other, 1), other == cell ? 3 : 0);
            }
        }
    }

    private static void marksAndCosts() {
        check.sentence("A free cell has a mark from 0 to 3 and a cost from 1 to 9.");
        RoverLocator x = Maps.of("#.");
        for (int mark = 0; mark <= 3; mark++) {
            x.setMark(1, mark);
            check.due("mark", x.cell(1, 1), mark);
        }
        for (int cost = 1; cost <= 9; cost++) {
            x.setCost(1, cost);
            check.due("cost", x.cell(1, 2), cost);
        }
        check.fails("mark -1", ARGUMENT, () -> x.setMark(1, -1));
        check.fails("mark 4", ARGUMENT, () -> x.setMark(1, 4));
        check.fails("cost 0", ARGUMENT, () -> x.setCost(1, 0));
        check.fails("cost 10", ARGUMENT, () -> x.setCost(1, 10));
        check.due("mark of a wall", x.cell(0, 1), 0);
        check.due("cost of a wall", x.cell(0, 2), 0);
    }

    private static void atFirst() {
        check.sentence("At first all cells are free with mark 0 and cost 1.");
        RoverLocator x = new RoverLocator();
        check.due("free cells", x.count(2), 12);
        for (int cell = 0; cell < 12; cell++) {
            check.due("wall " + cell, x.cell(cell, 0), 0);
            check.due("mark " + cell, x.cell(cell, 1), 0);
            check.due("cost " + cell, x.cell(cell, 2), 1);
        }
    }

    private static void oneFreeCell() {
        check.sentence("There is always at least one free cell.");
        RoverLocator x = new RoverLocator();
        x.carry(6);
        for (int cell = 0; cell < 12; cell++) {
            if (cell != 6) {
                check.due("a wall at " + cell, x.setWall(cell, true), false);
            }
        }
        check.due("free cells", x.count(2), 1);
        check.fails("the last one", STATE, () -> x.setWall(6, true));
        Maps.append(x, "##/##");
        check.fails("a map of walls", ARGUMENT, () -> x.load());
        check.due("still free", x.cell(6, 0), 0);
        check.due("its belief", x.belief(6), WHOLE);
    }

    private static RoverLocator threeByThree(int ahead, int left, int right) {
        RoverLocator x = Maps.of(Maps.free(3, 3));
        x.setMotion(ahead, left, right);
        return x;
    }

    private static void leftAndRight() {
        int[] around = {1, 5, 7, 3};
        check.sentence("The directions are 0 up, 1 right, 2 down, 3 left");
        for (int d = 0; d < 4; d++) {
            check.due("ahead in " + d, threeByThree(16, 0, 0).motion(4, around[d], d), 16);
        }
        check.sentence("the direction to the left of d is (d + 3) % 4");
        check.due("left of up is left", threeByThree(0, 16, 0).motion(4, 3, 0), 16);
        check.due("left of right is up", threeByThree(0, 16, 0).motion(4, 1, 1), 16);
        check.due("left of down is right", threeByThree(0, 16, 0).motion(4, 5, 2), 16);
        check.due("left of left is down", threeByThree(0, 16, 0).motion(4, 7, 3), 16);
        check.sentence("the one to the right (d + 1) % 4");
        check.due("right of up is right", threeByThree(0, 0, 16).motion(4, 5, 0), 16);
        check.due("right of right is down", threeByThree(0, 0, 16).motion(4, 7, 1), 16);
        check.due("right of down is left", threeByThree(0, 0, 16).motion(4, 3, 2), 16);
        check.due("right of left is up", threeByThree(0, 0, 16).motion(4, 1, 3), 16);
    }

    /** All motion goes ahead, so the one cell with motion weight 16 is the neighbor. */
    private static void goesTo(String what, RoverLocator x, int from, int direction, int want) {
        int cells = x.count(0) * x.count(1);
        for (int to = 0; to < cells; to++) {
            check.due(what + ", to " + to, x.motion(from, to, direction), to == want ? 16 : 0);
        }
        x.place(from);
        check.due(what + ", moved", x.move(direction), WHOLE);
        check.due(what + ", moved", x.belief(want), WHOLE);
    }

    private static void neighbors() {
        check.sentence("the next cell there if it exists and is free, otherwise the cell itself.");
        RoverLocator x = Maps.of(Maps.free(3, 3));
        for (int i = 0; i < 3; i++) {
            goesTo("up from the first row", x, i, 0, i);
            goesTo("down from the last row", x, 6 + i, 2, 6 + i);
            goesTo("right from the last column", x, 3 * i + 2, 1, 3 * i + 2);
            goesTo("left from the first column", x, 3 * i, 3, 3 * i);
        }
        RoverLocator y = Maps.of(".#./###/.#.");
        for (int corner : new int[] {0, 2, 6, 8}) {
            for (int d = 0; d < 4; d++) {
                goesTo("between walls", y, corner, d, corner);
            }
        }
        RoverLocator one = Maps.of(".");
        for (int d = 0; d < 4; d++) {
            goesTo("a single cell", one, 0, d, 0);
        }
        RoverLocator last = Maps.of(Maps.free(6, 6));
        goesTo("right from the last cell", last, 35, 1, 35);
        goesTo("down from the last cell", last, 35, 2, 35);
        goesTo("up from the last cell", last, 35, 0, 29);
        goesTo("left from the last cell", last, 35, 3, 34);
        goesTo("to the last cell", last, 34, 1, 35);
    }

    private static int sumOfMotions(RoverLocator x, int from, int direction) {
        int cells = x.count(0) * x.count(1);
        int sum = 0;
        for (int to = 0; to < cells; to++) {
            sum += x.motion(from, to, direction);
        }
        return sum;
    }

    private static void motionTable() {
        check.sentence("The motion table consists of four numbers from 0 to 16 whose sum is 16");
        int[][] tables = {{16, 0, 0, 0}, {0, 16, 0, 0}, {0, 0, 16, 0}, {0, 0, 0, 16}, {5, 4, 3, 4}, {6, 5, 5, 0}};
        for (int[] table : tables) {
            RoverLocator x = new RoverLocator();
            check.due("stay", x.setMotion(table[0], table[1], table[2]), table[3]);
            check.due("ahead", x.motion(5, 1, 0), table[0]);
            check.due("left", x.motion(5, 4, 0), table[1]);
            check.due("right", x.motion(5, 6, 0), table[2]);
            check.due("stay in the middle", x.motion(5, 5, 0), table[3]);
            for (int from : new int[] {0, 3, 5, 8, 11}) {
                check.due("the sum from " + from, sumOfMotions(x, from, 3), 16);
            }
        }
        check.sentence("16, 0, 0 and 0 at first");
        RoverLocator x = new RoverLocator();
        check.due("ahead", x.motion(5, 6, 1), 16);
        check.due("left", x.motion(5, 1, 1), 0);
        check.due("right", x.motion(5, 9, 1), 0);
        check.due("stay", x.motion(5, 5, 1), 0);
    }

    private static void motionWeights() {
        check.sentence("is the sum of the numbers of those of the four cases that lead there");
        RoverLocator x = Maps.of(".#/..");
        x.setMotion(8, 4, 3);
        check.due("ahead, right and stay lead back", x.motion(0, 0, 0), 8 + 4 + 3 + 1);
        check.due("right of left leads back, too", x.motion(0, 0, 3), 8 + 3 + 1);
        check.due("left of left leads down", x.motion(0, 2, 3), 4);
        check.due("from a corner", x.motion(2, 2, 2), 8 + 3 + 1);
        check.due("from a corner to the right", x.motion(2, 3, 2), 4);
        check.due("none leads there", x.motion(3, 0, 0), 0);
        RoverLocator one = Maps.of(".");
        one.setMotion(8, 4, 3);
        check.due("all four", one.motion(0, 0, 1), 16);
    }

    private static void sensorTable() {
        check.sentence("The sensor table has a number from 0 to 100 for each mark and each seen mark");
        RoverLocator x = new RoverLocator();
        for (int i = 0; i < 16; i++) {
            check.sentence("at first it is 100 if both are the same, otherwise 0");
            check.due("number " + i, x.setSensor(i / 4, i % 4, 100), i / 4 == i % 4 ? 100 : 0);
            check.sentence("The sensor table has a number from 0 to 100 for each mark and each seen mark");
            check.due("100 of " + i, x.setSensor(i / 4, i % 4, 0), 100);
            check.due("0 of " + i, x.setSensor(i / 4, i % 4, i + 1), 0);
        }
        for (int i = 0; i < 16; i++) {
            check.due("each has its own " + i, x.setSensor(i / 4, i % 4, 0), i + 1);
        }
        check.fails("101", ARGUMENT, () -> x.setSensor(3, 3, 101));
        check.fails("-1", ARGUMENT, () -> x.setSensor(3, 3, -1));
    }

    private static void buffer() {
        check.sentence("A buffer holds at most 45 characters.");
        RoverLocator x = new RoverLocator();
        for (int i = 1; i <= 45; i++) {
            check.due("characters", x.append('~'), i);
        }
        check.fails("46", STATE, () -> x.append('.'));
        check.due("still 45", x.count(5), 45);
    }

    private static int errorOf(String text) {
        RoverLocator x = Maps.append(new RoverLocator(), text);
        Check.outcome(() -> x.load());
        return x.errorPosition();
    }

    private static void characters() {
        check.sentence("cell = \"#\" | \".\" | \"a\" | \"b\" | \"c\" | \"d\"");
        for (char sign = 33; sign <= 126; sign++) {
            boolean free = ".abcd".indexOf(sign) >= 0;
            boolean cell = free || sign == '#';
            check.due("first: " + sign, errorOf("" + sign), free ? -1 : cell ? 1 : 0);
            check.due("second: " + sign, errorOf("." + sign), cell ? -1 : sign == '/' ? 2 : 1);
            check.due("behind a full row: " + sign, errorOf("./" + sign), cell ? -1 : 2);
        }
        check.sentence("\".\" and \"a\" stand for mark 0, \"b\", \"c\" and \"d\" for the marks 1 to 3.");
        RoverLocator x = Maps.of("#.a/bcd");
        int[] marks = {0, 0, 0, 1, 2, 3};
        for (int cell = 0; cell < 6; cell++) {
            check.due("wall " + cell, x.cell(cell, 0), cell == 0 ? 1 : 0);
            check.due("mark " + cell, x.cell(cell, 1), marks[cell]);
        }
    }

    private static void shapes() {
        check.sentence("All rows have the same number of cells, 1 to 6, and there are at most 6 rows.");
        check.due("no cell", errorOf(""), 0);
        check.due("no cell in the first row", errorOf("/."), 0);
        check.due("no cell in the second row", errorOf(".//."), 2);
        check.due("a cell", errorOf("."), -1);
        check.due("six cells", errorOf("......"), -1);
        check.due("seven cells", errorOf("......."), 6);
        check.due("a shorter row", errorOf(".../../..."), 6);
        check.due("a longer row", errorOf("../.../.."), 5);
        check.due("a shorter last row", errorOf(".../.."), 6);
        check.due("a longer last row", errorOf("../..."), 5);
        check.due("six rows", errorOf("./././././."), -1);
        check.due("seven rows", errorOf("././././././."), 11);
        check.due("six by six", errorOf(Maps.free(6, 6)), -1);
        check.due("a cell beyond six by six", errorOf(Maps.free(6, 6) + "."), 41);
        check.due("a row beyond six by six", errorOf(Maps.free(6, 6) + "/..."), 41);
    }

    private static void errorPositions() {
        check.sentence("is the index of the first character that cannot continue a map");
        check.due("the first of several", errorOf("..x/y/z"), 2);
        check.due("the last one", errorOf("../.?"), 4);
        check.due("a wrong sign where a row is full", errorOf("../..?"), 5);
        check.due("in the last place of the buffer", errorOf(Maps.free(5, 6) + "/........"), 35);
        check.sentence("or the length of the text if it ends too early");
        check.due("nothing", errorOf(""), 0);
        check.due("behind a row", errorOf("./"), 2);
        check.due("in a row", errorOf("..../..../..."), 13);
        check.due("behind five rows", errorOf(Maps.free(6, 5) + "/"), 35);
        check.due("in the last row", errorOf(Maps.free(6, 5) + "/....."), 40);
    }

    private static void onlyWalls() {
        check.sentence("a map that ends with only walls ends too early, also a full one");
        check.due("one", errorOf("#"), 1);
        check.due("a full row", errorOf("######"), 6);
        check.due("two rows", errorOf("##/##"), 5);
        String full = Maps.free(6, 6).replace('.', '#');
        check.due("a full one", errorOf(full), 41);
        check.due("a full one, and more", errorOf(full + "."), 41);
        check.due("six short rows", errorOf("#/#/#/#/#/#"), 11);
        check.due("a full one but for the last cell", errorOf(full.substring(0, 40)), 40);
        check.due("a free cell instead of the last wall", errorOf(full.substring(0, 40) + "."), -1);
        check.due("a free cell instead of the first wall", errorOf("." + full.substring(1)), -1);
        check.due("walls up to a wrong sign", errorOf("##/x"), 3);
    }
}
