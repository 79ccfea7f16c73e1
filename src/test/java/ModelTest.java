import java.util.Random;
import java.util.function.LongSupplier;

/** Random runs of the calls that an object is good for, each answer compared with the model's; the seeds are fixed. */
public final class ModelTest {
    private static final int RUNS = 3000;
    private static final int CALLS = 240;
    private static final int PROMISED_CALLS = 512;
    private static final String[] MAPS = {
        ".", "..", "./.", "b", "#.", "ab/cd", "...../.###./.#.#./.....", "....../....../....../....../....../......",
        "ab#cd./.#.#.#/dcba../#....#/.b.b.b/c.c.c.", "##/#d", "./#/./#/./b", "a.b.c.", "d/c/b/a/././.", "..#/...",
        "###", "######/######/######/######/######/######", "...x", "../..../", "abcd/dcba/bbbb", ".b./b#b/.b.",
    };

    private static final Check check = new Check();
    private static Random random;
    private static RoverLocator x;
    private static Model m;
    private static int run;
    private static int callsOfRun;

    public static void main(String[] args) {
        for (run = 0; run < RUNS; run++) {
            random = new Random(run);
            x = new RoverLocator();
            m = new Model();
            callsOfRun = 0;
            prepare();
            for (int call = any(0, CALLS); call > 0; call--) {
                anyCall();
            }
            observeAll();
        }
        check.end("ModelTest");
    }

    private static void same(String what, LongSupplier got, LongSupplier want) {
        if (callsOfRun == PROMISED_CALLS) {
            return;
        }
        callsOfRun++;
        check.due("run " + run + ": " + what, Check.outcome(got), Check.outcome(want));
    }

    private static int any(int low, int high) {
        return low + random.nextInt(high - low + 1);
    }

    /** Mostly from the range, at times next to it or far away. */
    private static int near(int low, int high) {
        int luck = random.nextInt(40);
        if (luck == 0) {
            return random.nextBoolean() ? low - 1 : high + 1;
        }
        if (luck == 1) {
            return random.nextBoolean() ? Integer.MIN_VALUE : Integer.MAX_VALUE;
        }
        return any(low, high);
    }

    private static int cell() {
        return near(0, m.s.w * m.s.h - 1);
    }

    private static void appendCall(int packed) {
        same("append " + packed, () -> x.append(packed), () -> m.append(packed));
    }

    private static void loadCall() {
        same("load", () -> x.load(), () -> m.load());
        same("errorPosition", () -> x.errorPosition(), () -> m.errorPosition());
    }

    private static void appendText(String text) {
        for (int i = 0; i < text.length(); i += 3) {
            appendCall(Maps.pack(text.substring(i, Math.min(text.length(), i + 3))));
        }
    }

    private static String anyText() {
        StringBuilder text = new StringBuilder();
        int width = any(1, 6);
        int height = any(1, 6);
        for (int row = 0; row < height; row++) {
            text.append(row == 0 ? "" : "/");
            for (int column = 0; column < width; column++) {
                text.append("#...abcd".charAt(random.nextInt(8)));
            }
        }
        if (random.nextInt(4) == 0) {
            text.setCharAt(random.nextInt(text.length()), "/#.!".charAt(random.nextInt(4)));
        }
        return text.toString();
    }

    private static void loadText() {
        appendText(random.nextBoolean() ? anyText() : MAPS[random.nextInt(MAPS.length)]);
        loadCall();
    }

    private static void prepare() {
        if (random.nextInt(5) > 0) {
            loadText();
        }
        if (random.nextInt(4) > 0) {
            motionCall();
        }
        for (int i = any(0, 16); i > 0; i--) {
            sensorCall();
        }
    }

    private static void motionCall() {
        int a = near(0, 16);
        int l = near(0, random.nextInt(4) == 0 ? 16 : 4);
        int r = near(0, random.nextInt(4) == 0 ? 16 : 4);
        same("setMotion " + a + " " + l + " " + r, () -> x.setMotion(a, l, r), () -> m.setMotion(a, l, r));
    }

    private static void sensorCall() {
        int a = near(0, 3);
        int b = near(0, 3);
        int weight = random.nextInt(3) == 0 ? 0 : near(0, 100);
        same("setSensor " + a + " " + b + " " + weight, () -> x.setSensor(a, b, weight),
            () -> m.setSensor(a, b, weight));
    }

    private static void anyCall() {
        int a = cell();
        int b = cell();
        int d = near(0, 3);
        boolean flag = random.nextBoolean();
        int luck = random.nextInt(60);
        switch (luck) {
            case 0 -> loadText();
            case 1 -> appendCall(random.nextInt());
            case 2 -> appendCall(0x2e & random.nextInt() | 0x23);
            case 3 -> same("setWall " + a, () -> x.setWall(a, flag) ? 1 : 0, () -> m.setWall(a, flag) ? 1 : 0);
            case 4, 5 -> same("setMark " + a + " " + d, () -> x.setMark(a, d), () -> m.setMark(a, d));
            case 6, 7 -> {
                int cost = near(1, 9);
                same("setCost " + a + " " + cost, () -> x.setCost(a, cost), () -> m.setCost(a, cost));
            }
            case 8 -> motionCall();
            case 9, 10 -> sensorCall();
            case 11 -> {
                int rate = random.nextInt(3) == 0 ? 0 : near(0, 100);
                same("setRate " + rate, () -> x.setRate(rate), () -> m.setRate(rate));
            }
            case 12 -> {
                int limit = random.nextInt(3) == 0 ? 0 : near(0, 100);
                same("setLimit " + limit, () -> x.setLimit(limit), () -> m.setLimit(limit));
            }
            case 13 -> same("spread", () -> x.spread(), () -> m.spread());
            case 14, 15 -> same("place " + a, () -> x.place(a), () -> m.place(a));
            case 16, 17, 18, 19, 20, 21 -> same("move " + d, () -> x.move(d), () -> m.move(d));
            case 22, 23, 24, 25, 26 -> same("see " + d, () -> x.see(d) ? 1 : 0, () -> m.see(d) ? 1 : 0);
            case 27 -> {
                int z = random.nextInt();
                same("seed " + z, () -> x.seed(z), () -> m.seed(z));
            }
            case 28, 29, 30, 31 -> same("drive " + d, () -> x.drive(d), () -> m.drive(d));
            case 32, 33, 34, 35 -> same("sense", () -> x.sense(), () -> m.sense());
            case 36 -> same("carry " + a, () -> x.carry(a), () -> m.carry(a));
            case 37, 38, 39 -> same("undo", () -> x.undo(), () -> m.undo());
            case 40 -> same("save", () -> x.save(), () -> m.save());
            case 41 -> same("restore", () -> x.restore(), () -> m.restore());
            case 42 -> observeAll();
            default -> observe(a, b, d, luck);
        }
    }

    private static void observe(int a, int b, int d, int luck) {
        switch (luck) {
            case 43 -> same("cell " + a + " " + d, () -> x.cell(a, d), () -> m.cell(a, d));
            case 44 -> same("motion", () -> x.motion(a, b, d), () -> m.motion(a, b, d));
            case 45 -> {
                int index = near(-1, 41);
                same("map " + index, () -> x.map(index), () -> m.map(index));
            }
            case 46 -> same("ranked " + a, () -> x.ranked(a), () -> m.ranked(a));
            case 47 -> {
                int percent = near(1, 100);
                same("core " + percent, () -> x.core(percent), () -> m.core(percent));
            }
            case 48, 49 -> same("promising", () -> x.promising(), () -> m.promising());
            case 50 -> same("exact " + a, () -> x.exact(a), () -> m.exact(a));
            case 51 -> {
                int index = near(0, 8);
                same("path " + index, () -> x.path(index), () -> m.path(index));
            }
            case 52 -> same("wayCost " + a + " " + b, () -> x.wayCost(a, b), () -> m.wayCost(a, b));
            case 53 -> same("wayDirection " + a + " " + b, () -> x.wayDirection(a, b), () -> m.wayDirection(a, b));
            case 54 -> same("expectedCost " + a, () -> x.expectedCost(a), () -> m.expectedCost(a));
            case 55 -> same("belief " + a, () -> x.belief(a), () -> m.belief(a));
            case 56 -> same("likely", () -> x.likely(), () -> m.likely());
            case 57 -> {
                int index = near(0, 7);
                same("step " + index, () -> x.step(index), () -> m.step(index));
            }
            case 58 -> {
                int what = near(0, 2);
                same("steps " + what, () -> x.steps(what), () -> m.steps(what));
            }
            default -> {
                int what = near(0, 6);
                same("count " + what, () -> x.count(what), () -> m.count(what));
            }
        }
    }

    private static void observeAll() {
        for (int i = -2; i <= 42; i++) {
            int index = i;
            same("map " + i, () -> x.map(index), () -> m.map(index));
        }
        for (int i = -1; i <= 36; i++) {
            int c = i;
            same("belief " + i, () -> x.belief(c), () -> m.belief(c));
            same("ranked " + i, () -> x.ranked(c), () -> m.ranked(c));
            same("exact " + i, () -> x.exact(c), () -> m.exact(c));
            same("expectedCost " + i, () -> x.expectedCost(c), () -> m.expectedCost(c));
            same("cost " + i, () -> x.cell(c, 2), () -> m.cell(c, 2));
            same("exits " + i, () -> x.cell(c, 3), () -> m.cell(c, 3));
            same("wayDirection 0 " + i, () -> x.wayDirection(0, c), () -> m.wayDirection(0, c));
            same("wayCost to 1 " + i, () -> x.wayCost(c, 1), () -> m.wayCost(c, 1));
        }
        for (int i = -1; i <= 9; i++) {
            int k = i;
            same("step " + i, () -> x.step(k), () -> m.step(k));
            same("path " + i, () -> x.path(k), () -> m.path(k));
            same("count " + i, () -> x.count(k), () -> m.count(k));
            same("steps " + i, () -> x.steps(k), () -> m.steps(k));
        }
        for (int i = -1; i <= 101; i++) {
            int k = i;
            same("core " + i, () -> x.core(k), () -> m.core(k));
        }
        same("doubtBits", () -> x.doubtBits(), () -> m.doubtBits());
        same("shareBits", () -> x.shareBits(), () -> m.shareBits());
        same("promising", () -> x.promising(), () -> m.promising());
        same("likely", () -> x.likely(), () -> m.likely());
        same("pathWeight", () -> x.pathWeight(), () -> m.pathWeight());
        same("rover", () -> x.rover(), () -> m.rover());
        same("errorPosition", () -> x.errorPosition(), () -> m.errorPosition());
    }
}
