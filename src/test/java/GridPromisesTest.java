/** Promises 1 to 14: a new object, texts, the grid and the tables. */
public final class GridPromisesTest {
    private static final Check check = new Check();
    private static final Class<IndexOutOfBoundsException> INDEX = IndexOutOfBoundsException.class;
    private static final Class<IllegalArgumentException> ARGUMENT = IllegalArgumentException.class;
    private static final Class<IllegalStateException> STATE = IllegalStateException.class;

    public static void main(String[] args) {
        promise1();
        promise2();
        promise2Bytes();
        promise2Skipped();
        promise2Full();
        promise3();
        promise3Rover();
        promise3Costs();
        promise4();
        promise4Texts();
        promise5();
        promise6();
        promise7();
        promise8();
        promise8All();
        promise9();
        promise10And11();
        promise12();
        promise13();
        promise14();
        promise14Again();
        check.end("GridPromisesTest");
    }

    private static void promise1() {
        RoverLocator x = new RoverLocator();
        check.due("1 beliefs", Maps.beliefsOf(x),
            "83334 83334 83334 83334 83333 83333 83333 83333 83333 83333 83333 83333");
        check.due("1 map", Maps.textOf(x), "..../..../....");
        check.due("1 width", x.count(0), 4);
        check.due("1 height", x.count(1), 3);
        for (int what = 3; what <= 6; what++) {
            check.due("1 count " + what, x.count(what), 0);
        }
        check.due("1 rover", x.rover(), 0);
        check.due("1 seed", x.seed(5), 1);
        check.due("1 rate", x.setRate(0), 0);
        check.due("1 limit", x.setLimit(0), 0);
        check.due("1 ahead alone", x.motion(0, 1, 1), 16);
        for (int cell = 0; cell < 12; cell++) {
            check.due("1 cost", x.cell(cell, 2), 1);
            check.due("1 mark", x.cell(cell, 1), 0);
        }
        for (int mark = 0; mark < 4; mark++) {
            for (int seen = 0; seen < 4; seen++) {
                check.due("1 sensor", x.setSensor(mark, seen, 0), mark == seen ? 100 : 0);
            }
        }
    }

    private static void promise2() {
        RoverLocator x = new RoverLocator();
        check.due("2 nothing", x.append(0), 0);
        check.due("2 two of four", x.append(0x2e00002f), 2);
        check.due("2 most significant first", x.append(0x2e616200), 5);
        check.fails("2 32", ARGUMENT, () -> x.append(0x2e2e2e20));
        check.fails("2 127", ARGUMENT, () -> x.append(0x7f2e2e2e));
        check.fails("2 128", ARGUMENT, () -> x.append(0x80000000));
        check.fails("2 255", ARGUMENT, () -> x.append(-1));
        check.fails("2 1", ARGUMENT, () -> x.append(0x2e010000));
        check.due("2 kept", x.count(5), 5);
        check.due("2 33 and 126", x.append(0x0000217e), 7);
        check.fails("2 load", ARGUMENT, () -> x.load());
        check.due("2 the order of the signs", x.errorPosition(), 3);

        RoverLocator y = new RoverLocator();
        for (int i = 1; i <= 11; i++) {
            check.due("2 fours", y.append(0x2e2e2e2e), 4 * i);
        }
        check.fails("2 46", STATE, () -> y.append(0x2e2e));
        check.fails("2 48", STATE, () -> y.append(0x2e2e2e2e));
        check.fails("2 the bad byte first", ARGUMENT, () -> y.append(0x2e2e2e07));
        check.due("2 still 44", y.count(5), 44);
        check.due("2 45", y.append(0x2e), 45);
        check.due("2 none more", y.append(0), 45);
        check.fails("2 one more", STATE, () -> y.append(0x2e000000));
        check.due("2 no change", y.count(6), 0);
    }

    private static void promise2Bytes() {
        for (int shift = 0; shift <= 24; shift += 8) {
            for (int sign = 0; sign < 256; sign++) {
                RoverLocator x = new RoverLocator();
                int packed = sign << shift;
                if (sign == 0 || sign >= 33 && sign <= 126) {
                    check.due("2 the byte " + sign, x.append(packed), sign == 0 ? 0 : 1);
                } else {
                    check.fails("2 the byte " + sign, ARGUMENT, () -> x.append(packed));
                    check.due("2 none of it", x.count(5), 0);
                }
            }
        }
    }

    /** Bytes that are 0 are skipped, wherever they stand. */
    private static void promise2Skipped() {
        int[] bytes = {'.' << 24, 'b' << 16, 'c' << 8, 'd'};
        for (int pattern = 1; pattern < 16; pattern++) {
            int packed = 0;
            StringBuilder text = new StringBuilder();
            for (int i = 0; i < 4; i++) {
                if ((pattern >> i & 1) == 1) {
                    packed |= bytes[i];
                    text.append(".bcd".charAt(i));
                }
            }
            RoverLocator x = new RoverLocator();
            check.due("2 characters of " + text, x.append(packed), text.length());
            x.load();
            check.due("2 the order of " + text, Maps.textOf(x), text.toString());
        }
    }

    /** Only the characters count for the 45, not the bytes that are 0. */
    private static void promise2Full() {
        for (int filled = 40; filled <= 45; filled++) {
            for (int pattern = 0; pattern < 16; pattern++) {
                RoverLocator x = Maps.append(new RoverLocator(), "#".repeat(filled));
                int packed = (pattern & 1) * 0x21 | (pattern >> 1 & 1) * 0x7e00 | (pattern >> 2 & 1) * 0x2f0000
                    | (pattern >> 3) * 0x21000000;
                int length = filled + Integer.bitCount(pattern);
                if (length <= 45) {
                    check.due("2 " + filled + " and " + pattern, x.append(packed), length);
                } else {
                    check.fails("2 " + filled + " and " + pattern, STATE, () -> x.append(packed));
                    check.due("2 none of them", x.count(5), filled);
                }
            }
        }
    }

    private static void promise3() {
        RoverLocator x = new RoverLocator();
        x.setMotion(8, 4, 2);
        x.setSensor(0, 1, 7);
        x.setRate(9);
        x.setLimit(3);
        x.setCost(1, 5);
        x.seed(77);
        x.place(2);
        x.move(1);
        Maps.append(x, "##a/bcd");
        check.due("3 free cells", x.load(), 4);
        check.due("3 map", Maps.textOf(x), "##./bcd");
        check.due("3 beliefs", Maps.beliefsOf(x), "0 0 250000 250000 250000 250000");
        check.due("3 buffer", x.count(5), 0);
        check.due("3 steps", x.steps(0), 0);
        check.due("3 rows begin anywhere", x.exact(5), 1);
        check.due("3 a wall ends no row", x.exact(0), 0);
        check.due("3 rover", x.rover(), 2);
        check.due("3 width", x.count(0), 3);
        check.due("3 height", x.count(1), 2);
        check.due("3 marks", x.cell(3, 1) * 100 + x.cell(4, 1) * 10 + x.cell(5, 1), 123);
        for (int cell = 2; cell < 6; cell++) {
            check.due("3 cost", x.cell(cell, 2), 1);
        }
        check.due("3 motion stays", x.motion(4, 5, 1), 8);
        check.due("3 rate stays", x.setRate(0), 9);
        check.due("3 limit stays", x.setLimit(0), 3);
        check.due("3 sensor stays", x.setSensor(0, 1, 0), 7);
        check.due("3 z stays", x.seed(0), 77);

        check.due("3 changes", x.count(6), 6);
        RoverLocator y = Maps.of("....../....../....../....../....../.....b");
        check.due("3 the greatest map", y.count(2), 36);
        check.due("3 its last mark", y.cell(35, 1), 3 - 2);
        check.due("3 one change", y.count(6), 1);
        Maps.append(y, "..x");
        check.fails("3 an error", ARGUMENT, () -> y.load());
        check.due("3 the buffer is empty all the same", y.count(5), 0);
        check.due("3 the grid stays", y.count(2), 36);
        check.due("3 no change", y.count(6), 1);
        countsStay();
    }

    private static void promise3Rover() {
        for (int free = 0; free < 36; free++) {
            StringBuilder map = new StringBuilder(Maps.free(6, 6).replace('.', '#'));
            map.setCharAt(free / 6 * 7 + free % 6, 'd');
            RoverLocator x = Maps.append(new RoverLocator(), map.toString());
            check.due("3 one free cell", x.load(), 1);
            check.due("3 the rover is there", x.rover(), free);
            check.due("3 and the whole belief", x.belief(free), 1000000);
        }
        RoverLocator y = new RoverLocator();
        y.carry(11);
        Maps.append(y, "..../..../....");
        check.due("3 the same map", y.load(), 12);
        check.due("3 the rover is in the lowest cell all the same", y.rover(), 0);
    }

    private static void promise3Costs() {
        RoverLocator x = new RoverLocator();
        for (int cell = 0; cell < 12; cell++) {
            x.setCost(cell, 9);
        }
        Maps.append(x, Maps.free(6, 6));
        x.load();
        for (int cell = 0; cell < 36; cell++) {
            check.due("3 the cost of " + cell, x.cell(cell, 2), 1);
        }
    }

    private static void countsStay() {
        RoverLocator x = new RoverLocator();
        x.setMark(0, 1);
        x.place(4);
        x.sense();
        check.due("3 a restart", x.count(3), 1);
        check.due("3 a hit", x.count(4), 1);
        Maps.append(x, ".");
        x.load();
        check.due("3 restarts stay", x.count(3), 1);
        check.due("3 hits stay", x.count(4), 1);
    }

    private static void promise4() {
        RoverLocator x = new RoverLocator();
        check.due("4 at first", x.errorPosition(), -1);
        Maps.append(x, "..x.");
        check.due("4 before load", x.errorPosition(), -1);
        check.fails("4 load", ARGUMENT, () -> x.load());
        check.due("4 behind an error", x.errorPosition(), 2);
        Maps.append(x, "./.");
        check.due("4 stays", x.errorPosition(), 2);
        x.load();
        check.due("4 no error", x.errorPosition(), -1);
    }

    private static void promise4Texts() {
        String full = "######/######/######/######/######/######";
        text("", 0);
        text("/", 0);
        text("e", 0);
        text("A", 0);
        text(".", -1);
        text("#", 1);
        text("###", 3);
        text("#/#", 3);
        text("#/#/", 4);
        text("./", 2);
        text(".//", 2);
        text("./..", 3);
        text("../.", 4);
        text(".././", 4);
        text("......", -1);
        text(".......", 6);
        text("######", 6);
        text("#######", 6);
        text("#/#/#/#/#/#", 11);
        text("#/#/#/#/#/a", -1);
        text("#/#/#/#/#/#/", 11);
        text("./././././.", -1);
        text("./././././.#", 11);
        text(full, 41);
        text(full + "/", 41);
        text(full + "#", 41);
        text(full.substring(0, 40) + "d", -1);
        text(full.substring(0, 40) + "d/..", 41);
        text("..#/ab!/x", 6);
        text("abcd/abcde", 9);
        text("abcd/abcd.", 9);
    }

    private static void text(String text, int want) {
        RoverLocator x = Maps.append(new RoverLocator(), text);
        if (want == -1) {
            x.load();
        } else {
            check.fails("4 '" + text + "'", ARGUMENT, () -> x.load());
        }
        check.due("4 '" + text + "'", x.errorPosition(), want);
        check.due("4 the model of '" + text + "'", Model.errorOf(text), want);
    }

    private static void promise5() {
        RoverLocator x = Maps.of("bb/cc");
        check.fails("5 -1", INDEX, () -> x.setWall(-1, true));
        check.fails("5 4", INDEX, () -> x.setWall(4, false));
        check.fails("5 the rover is there", STATE, () -> x.setWall(0, true));
        x.setCost(1, 7);
        x.place(3);
        x.move(0);
        check.due("5 it is free already", x.setWall(1, false), false);
        check.due("5 the beliefs stay", x.belief(1), 1000000);
        check.due("5 the steps stay", x.steps(0), 1);
        check.due("5 the cost stays", x.cell(1, 2), 7);
        check.due("5 the mark stays", x.cell(1, 1), 1);
        check.due("5 a change all the same", x.count(6), 5);
        check.due("5 a wall", x.setWall(1, true), false);
        check.due("5 beliefs", Maps.beliefsOf(x), "333334 0 333333 333333");
        check.due("5 no steps", x.steps(0), 0);
        check.due("5 no neighbor", x.motion(0, 0, 1), 16);
        check.due("5 rows begin anywhere", x.exact(0), 1);
        check.due("5 it is a wall already", x.setWall(1, true), true);
        check.due("5 free again", x.setWall(1, false), true);
        check.due("5 with mark 0", x.cell(1, 1), 0);
        check.due("5 with cost 1", x.cell(1, 2), 1);
        check.due("5 beliefs again", Maps.beliefsOf(x), "250000 250000 250000 250000");
        check.due("5 a neighbor again", x.motion(0, 1, 1), 16);

        RoverLocator y = Maps.of("#./##");
        check.fails("5 the only free one", STATE, () -> y.setWall(1, true));
        check.due("5 walls beside it", y.setWall(0, true), true);
        check.due("5 another", y.setWall(3, false), true);
        check.due("5 the rover moves on", y.carry(3), 1);
        check.due("5 the first can go now", y.setWall(1, true), false);
        check.fails("5 the only one now", STATE, () -> y.setWall(3, true));
    }

    private static void promise6() {
        RoverLocator x = Maps.of("#b.");
        x.place(2);
        check.fails("6 -1", INDEX, () -> x.setMark(-1, 0));
        check.fails("6 no cell, no mark", INDEX, () -> x.setMark(3, 4));
        check.fails("6 mark 4", ARGUMENT, () -> x.setMark(1, 4));
        check.fails("6 mark -1", ARGUMENT, () -> x.setMark(2, -1));
        check.fails("6 a wall, no mark", ARGUMENT, () -> x.setMark(0, 4));
        check.fails("6 a wall", STATE, () -> x.setMark(0, 3));
        check.due("6 previous", x.setMark(1, 3), 1);
        check.due("6 set", x.cell(1, 1), 3);
        check.due("6 to 0", x.setMark(1, 0), 3);
        check.due("6 the beliefs stay", Maps.beliefsOf(x), "0 0 1000000");
        check.due("6 rows begin there still", x.exact(1), 0);
        check.due("6 changes", x.count(6), 4);
    }

    private static void promise7() {
        RoverLocator x = Maps.of("#b.");
        check.fails("7 -1", INDEX, () -> x.setCost(-1, 1));
        check.fails("7 no cell, no cost", INDEX, () -> x.setCost(3, 0));
        check.fails("7 cost 0", ARGUMENT, () -> x.setCost(1, 0));
        check.fails("7 cost 10", ARGUMENT, () -> x.setCost(1, 10));
        check.fails("7 a wall, no cost", ARGUMENT, () -> x.setCost(0, 10));
        check.fails("7 a wall", STATE, () -> x.setCost(0, 9));
        check.due("7 previous", x.setCost(1, 9), 1);
        check.due("7 set", x.cell(1, 2), 9);
        check.due("7 back", x.setCost(1, 1), 9);
        check.due("7 changes", x.count(6), 3);
    }

    private static void promise8() {
        RoverLocator x = new RoverLocator();
        check.due("8 stay", x.setMotion(3, 5, 2), 6);
        check.due("8 ahead", x.motion(5, 6, 1), 3);
        check.due("8 left", x.motion(5, 1, 1), 5);
        check.due("8 right", x.motion(5, 9, 1), 2);
        check.due("8 stays", x.motion(5, 5, 1), 6);
        int[][] wrong = {{-1, 0, 0}, {0, -1, 0}, {0, 0, -1}, {17, 0, 0}, {0, 17, 0}, {0, 0, 17}, {16, 1, 0}, {0, 16, 1},
            {17, -1, 0}, {6, 6, 5}, {Integer.MAX_VALUE, Integer.MAX_VALUE, 2}, {Integer.MIN_VALUE, 0, 0}};
        for (int[] w : wrong) {
            check.fails("8 " + w[0] + " " + w[1] + " " + w[2], ARGUMENT, () -> x.setMotion(w[0], w[1], w[2]));
        }
        check.due("8 one change", x.count(6), 1);
        check.due("8 unchanged", x.motion(5, 6, 1), 3);
        check.due("8 none", x.setMotion(0, 0, 0), 16);
        check.due("8 all", x.setMotion(0, 0, 16), 0);
    }

    private static void promise8All() {
        for (int ahead = -1; ahead <= 17; ahead++) {
            for (int left = -1; left <= 17; left++) {
                RoverLocator x = new RoverLocator();
                for (int right = -1; right <= 17; right++) {
                    int stay = 16 - ahead - left - right;
                    boolean fits = ahead >= 0 && left >= 0 && right >= 0 && stay >= 0;
                    int a = ahead;
                    int l = left;
                    int r = right;
                    check.due("8 " + a + " " + l + " " + r, Check.outcome(() -> x.setMotion(a, l, r)),
                        fits ? "" + stay : "IllegalArgumentException");
                }
            }
        }
    }

    private static void promise9() {
        RoverLocator x = new RoverLocator();
        check.fails("9 mark -1", INDEX, () -> x.setSensor(-1, 0, 0));
        check.fails("9 mark 4", INDEX, () -> x.setSensor(4, 0, 101));
        check.fails("9 seen -1", INDEX, () -> x.setSensor(0, -1, 0));
        check.fails("9 seen 4", INDEX, () -> x.setSensor(0, 4, -1));
        check.fails("9 weight -1", ARGUMENT, () -> x.setSensor(0, 0, -1));
        check.fails("9 weight 101", ARGUMENT, () -> x.setSensor(0, 0, 101));
        check.due("9 0 0", x.setSensor(0, 0, 30), 100);
        check.due("9 0 1", x.setSensor(0, 1, 70), 0);
        check.due("9 1 0", x.setSensor(1, 0, 20), 0);
        check.due("9 again", x.setSensor(0, 1, 100), 70);
        check.due("9 the other", x.setSensor(1, 0, 0), 20);
        check.due("9 changes", x.count(6), 5);
    }

    private static void promise10And11() {
        RoverLocator x = new RoverLocator();
        check.fails("10 -1", ARGUMENT, () -> x.setRate(-1));
        check.fails("10 101", ARGUMENT, () -> x.setRate(101));
        check.fails("11 -1", ARGUMENT, () -> x.setLimit(-1));
        check.fails("11 101", ARGUMENT, () -> x.setLimit(101));
        check.due("10 and 11 no change", x.count(6), 0);
        check.due("10 first", x.setRate(100), 0);
        check.due("11 first", x.setLimit(99), 0);
        check.due("10 second", x.setRate(0), 100);
        check.due("11 second", x.setLimit(100), 99);
        check.due("11 third", x.setLimit(0), 100);
        check.due("10 and 11 changes", x.count(6), 5);
    }

    private static void promise12() {
        RoverLocator x = Maps.of("c#./...");
        x.setCost(0, 4);
        check.fails("12 -1", INDEX, () -> x.cell(-1, 0));
        check.fails("12 no cell, no property", INDEX, () -> x.cell(6, 4));
        check.fails("12 4", ARGUMENT, () -> x.cell(0, 4));
        check.fails("12 -1", ARGUMENT, () -> x.cell(1, -1));
        int[][] want = {{0, 2, 4, 1}, {1, 0, 0, 0}, {0, 0, 1, 1}, {0, 0, 1, 2}, {0, 0, 1, 2}, {0, 0, 1, 2}};
        for (int cell = 0; cell < 6; cell++) {
            for (int what = 0; what < 4; what++) {
                check.due("12 cell " + cell + " " + what, x.cell(cell, what), want[cell][what]);
            }
        }
        RoverLocator y = new RoverLocator();
        check.due("12 four neighbors", y.cell(5, 3), 4);
        check.due("12 three neighbors", y.cell(7, 3), 3);
        check.due("12 not the next row", y.cell(3, 3), 2);
    }

    private static void promise13() {
        RoverLocator x = Maps.of(".../.#./...");
        x.setMotion(8, 4, 3);
        check.fails("13 from", INDEX, () -> x.motion(-1, 0, 0));
        check.fails("13 to", INDEX, () -> x.motion(0, 9, 4));
        check.fails("13 direction 4", ARGUMENT, () -> x.motion(0, 0, 4));
        check.fails("13 direction -1", ARGUMENT, () -> x.motion(4, 4, -1));
        check.due("13 from a wall", x.motion(4, 4, 0), 0);
        check.due("13 to a wall", x.motion(1, 4, 2), 0);
        check.due("13 against the wall and stay", x.motion(1, 1, 2), 9);
        check.due("13 left of down is right", x.motion(1, 2, 2), 4);
        check.due("13 right of down is left", x.motion(1, 0, 2), 3);
        check.due("13 up, at the edge", x.motion(0, 0, 0), 13);
        check.due("13 up, right of it", x.motion(0, 1, 0), 3);
        check.due("13 left, left of it", x.motion(0, 3, 3), 4);
        check.due("13 right", x.motion(0, 1, 1), 8);
        check.due("13 far away", x.motion(0, 8, 1), 0);
        check.due("13 not over the edge", x.motion(2, 3, 1), 0);
    }

    private static void promise14() {
        RoverLocator x = Maps.of("a#b/cd.");
        check.due("14 text", Maps.textOf(x), ".#b/cd.");
        check.due("14 length", x.map(-1), 7);
        check.fails("14 -2", INDEX, () -> x.map(-2));
        check.fails("14 7", INDEX, () -> x.map(7));
        check.fails("14 far", INDEX, () -> x.map(Integer.MAX_VALUE));
        x.setMark(5, 3);
        x.setWall(3, true);
        check.due("14 changed", Maps.textOf(x), ".#b/#dd");
        check.due("14 one", Maps.textOf(Maps.of("d")), "d");
        check.due("14 a column", Maps.textOf(Maps.of("a/#/c")), "./#/c");
        String full = "abcd.#/....../#####a/bbbbbb/c#c#c#/dddddd";
        check.due("14 full", Maps.textOf(Maps.of(full)), full.replace('a', '.'));
    }

    /** As load reads it: the text of a map makes the same map. */
    private static void promise14Again() {
        for (String map : new String[] {".", "#b", "d/#", "b#c/.d#", "abcd.#/....../#####a/bbbbbb/c#c#c#/dddddd"}) {
            String text = Maps.textOf(Maps.of(map));
            check.due("14 length of " + map, text.length(), map.length());
            check.due("14 again " + map, Maps.textOf(Maps.of(text)), text);
        }
    }
}
