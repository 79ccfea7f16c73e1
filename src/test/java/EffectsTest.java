import java.util.Arrays;
import java.util.List;

/** Each call changes what its promise says and leaves all the rest, on an object that has nothing as it was at first. */
public final class EffectsTest {
    interface Call {
        void on(RoverLocator x);
    }

    private static final Check check = new Check();
    private static final Scene SCENE = EffectsTest::longUsed;
    private static final Parts BEFORE = new Parts(SCENE);
    private static final String STATE = "size walls marks costs beliefs steps rows restarts hits rover z rate limit "
        + "sensors motions";

    public static void main(String[] args) {
        nothingAsAtFirst();
        texts();
        cells();
        tables();
        beliefs();
        rover();
        questions();
        undo();
        saveAndRestore();
        check.end("EffectsTest");
    }

    /** The cells are "b..#/.c../..#d" at first; what is saved differs from what is now in every part. */
    private static RoverLocator longUsed() {
        RoverLocator x = Maps.of("b..#/.c../..#d");
        x.setMotion(9, 3, 2);
        x.setSensor(0, 1, 30);
        x.setSensor(2, 0, 40);
        x.setSensor(3, 2, 50);
        x.setRate(5);
        x.setLimit(2);
        x.setCost(5, 4);
        x.seed(77);
        x.carry(5);
        x.place(5);
        x.sense();
        x.save();
        x.setMotion(8, 4, 2);
        x.setSensor(0, 2, 20);
        x.setRate(6);
        x.setLimit(3);
        x.setWall(10, false);
        x.setWall(7, true);
        x.setMark(10, 3);
        x.setCost(10, 7);
        x.seed(78);
        x.carry(10);
        x.place(0);
        x.see(3);
        x.sense();
        x.place(9);
        x.move(1);
        x.see(0);
        for (int i = 0; i < 4; i++) {
            x.spread();
        }
        for (int i = 0; i < 4; i++) {
            x.undo();
        }
        Check.outcome(() -> Maps.append(x, "../.").load());
        return Maps.append(x, "#.b");
    }

    private static void nothingAsAtFirst() {
        Parts first = new Parts(RoverLocator::new);
        Parts saved = after(SCENE, x -> x.restore());
        for (String part : BEFORE.now.keySet()) {
            if (!part.equals("size")) {
                check.due(part + " is not as at first", BEFORE.now.get(part).equals(first.now.get(part)), false);
            }
            if (!part.equals("size") && STATE.contains(part)) {
                check.due(part + " is not as saved", BEFORE.now.get(part).equals(saved.now.get(part)), false);
            }
        }
        check.due("changes left", BEFORE.past.size(), 2);
    }

    private static Parts after(Scene scene, Call call) {
        return new Parts(() -> {
            RoverLocator x = scene.make();
            Check.outcome(() -> {
                call.on(x);
                return 0;
            });
            return x;
        });
    }

    private static void compare(String what, Parts before, Parts after, List<String> changed) {
        for (String part : before.now.keySet()) {
            String was = before.now.get(part);
            String is = after.now.get(part);
            check.due(what + ": whether " + part + " changes from " + was + " to " + is, !was.equals(is),
                changed.contains(part));
        }
    }

    /** A call that undo does not take back. */
    private static void only(String what, Scene scene, Call call, String changed) {
        Parts before = new Parts(scene);
        Parts after = after(scene, call);
        compare(what, before, after, Arrays.asList(changed.split(" ")));
        samePast(what, after.past, before.past);
        check.due(what + " and what is saved", after.saved, before.saved);
    }

    private static void samePast(String what, List<String> got, List<String> want) {
        check.due(what + ": how often undo leads back", got.size(), want.size());
        for (int i = 0; i < Math.min(got.size(), want.size()); i++) {
            check.due(what + ": what undo leads back to " + i, got.get(i), want.get(i));
        }
    }

    /** A change: it comes before those that could be taken back before. */
    private static void change(String what, Scene scene, Call call, String changed) {
        Parts before = new Parts(scene);
        Parts after = after(scene, call);
        compare(what, before, after, Arrays.asList((changed + " changes").split(" ")));
        check.due(what + " and what is saved", after.saved, before.saved);
        Parts undone = after(after.scene, x -> x.undo());
        check.due(what + " taken back", undone.whole, before.whole);
        check.due(what + " taken back, and the buffer", undone.now.get("buffer"), after.now.get("buffer"));
        check.due(what + " taken back, and the error position", undone.now.get("error"), after.now.get("error"));
        check.due(what + " taken back, and what is saved", undone.saved, before.saved);
        samePast(what + " taken back", undone.past, before.past);
        before.past.add(0, before.whole);
        samePast(what, after.past, before.past);
    }

    private static Scene with(Call call) {
        return () -> {
            RoverLocator x = longUsed();
            call.on(x);
            return x;
        };
    }

    private static void texts() {
        only("append", SCENE, x -> x.append('c'), "buffer");
        only("append nothing", SCENE, x -> x.append(0), "");
        change("load", SCENE, x -> x.load(), "size walls marks costs beliefs steps rows rover error buffer");
        only("load with an error", with(x -> x.append('?')), x -> x.load(), "error buffer");
        only("errorPosition", SCENE, x -> x.errorPosition(), "");
    }

    private static void cells() {
        change("setWall", SCENE, x -> x.setWall(5, true), "walls marks costs beliefs steps rows");
        change("setWall of a cell as at first", SCENE, x -> x.setWall(1, true), "walls costs beliefs steps rows");
        change("setWall back", SCENE, x -> x.setWall(7, false), "walls costs beliefs steps rows");
        change("setWall of a wall", SCENE, x -> x.setWall(7, true), "");
        change("setWall of a free cell", SCENE, x -> x.setWall(5, false), "");
        change("setMark", SCENE, x -> x.setMark(10, 1), "marks");
        change("setMark to the same", SCENE, x -> x.setMark(10, 3), "");
        change("setCost", SCENE, x -> x.setCost(10, 2), "costs");
        change("setCost to the same", SCENE, x -> x.setCost(10, 7), "");
    }

    private static void tables() {
        change("setMotion", SCENE, x -> x.setMotion(1, 2, 3), "motions");
        change("setMotion to the same", SCENE, x -> x.setMotion(8, 4, 2), "");
        change("setSensor", SCENE, x -> x.setSensor(3, 1, 9), "sensors");
        change("setSensor to the same", SCENE, x -> x.setSensor(0, 2, 20), "");
        change("setRate", SCENE, x -> x.setRate(99), "rate");
        change("setRate to the same", SCENE, x -> x.setRate(6), "");
        change("setLimit", SCENE, x -> x.setLimit(99), "limit");
        change("setLimit to the same", SCENE, x -> x.setLimit(3), "");
    }

    private static void beliefs() {
        change("spread", SCENE, x -> x.spread(), "beliefs steps rows");
        change("place", SCENE, x -> x.place(11), "beliefs steps rows");
        change("move", SCENE, x -> x.move(2), "beliefs steps rows");
        change("see", SCENE, x -> x.see(0), "beliefs steps rows");
        Scene sure = with(x -> x.setLimit(100));
        Scene there = with(x -> x.place(10));
        change("move where the rover is", there, x -> x.move(2), "beliefs steps rows");
        change("see where the rover is", there, x -> x.see(2), "steps rows");
        change("see with a restart", sure, x -> x.see(2), "beliefs steps rows restarts");
    }

    private static void rover() {
        change("seed", SCENE, x -> x.seed(5), "z");
        change("drive", SCENE, x -> x.drive(3), "beliefs steps rows z rover");
        change("drive with a hit", with(x -> x.place(10)), x -> x.drive(3), "beliefs steps rows z rover hits");
        change("sense", SCENE, x -> x.sense(), "beliefs steps rows z");
        change("sense with a hit", with(x -> x.place(10)), x -> x.sense(), "steps rows z hits");
        Scene sure = with(x -> x.setLimit(100));
        // It sees the mark 2, so cell 5 has the rank 0 afterwards.
        change("sense with a restart", sure, x -> x.sense(), "beliefs steps rows z restarts");
        Scene unsure = with(x -> {
            x.setSensor(3, 2, 0);
            x.setSensor(3, 3, 0);
            x.setSensor(0, 3, 60);
        });
        change("sense without a draw", unsure, x -> x.sense(), "beliefs steps rows");
        change("carry", SCENE, x -> x.carry(0), "rover");
        change("carry to the same cell", SCENE, x -> x.carry(10), "");
        change("carry to the cell with rank 0", SCENE, x -> x.carry(x.ranked(0)), "rover");
        only("rover", SCENE, x -> x.rover(), "");
    }

    private static void questions() {
        for (int i = 0; i < 12; i++) {
            int n = i;
            only("cell " + n, SCENE, x -> x.cell(n, n % 4), "");
            only("motion " + n, SCENE, x -> x.motion(10, n, n % 4), "");
            only("map " + n, SCENE, x -> x.map(n - 1), "");
            only("belief " + n, SCENE, x -> x.belief(n), "");
            only("ranked " + n, SCENE, x -> x.ranked(n), "");
            only("core " + n, SCENE, x -> x.core(1 + 9 * n), "");
            only("exact " + n, SCENE, x -> x.exact(n), "");
            only("wayCost " + n, SCENE, x -> x.wayCost(10, n), "");
            only("wayDirection " + n, SCENE, x -> x.wayDirection(n, 10), "");
            only("expectedCost " + n, SCENE, x -> x.expectedCost(n), "");
            only("count " + n, SCENE, x -> x.count(n), "");
            only("steps " + n, SCENE, x -> x.steps(n), "");
            only("step " + n, SCENE, x -> x.step(n), "");
            only("path " + n, SCENE, x -> x.path(n), "");
        }
        only("doubtBits", SCENE, x -> x.doubtBits(), "");
        only("shareBits", SCENE, x -> x.shareBits(), "");
        only("promising", SCENE, x -> x.promising(), "");
        only("likely", SCENE, x -> x.likely(), "");
        only("pathWeight", SCENE, x -> x.pathWeight(), "");
    }

    private static void undo() {
        Parts after = after(SCENE, x -> x.undo());
        check.due("undo leads back", after.whole, BEFORE.past.get(0));
        samePast("undo", after.past, BEFORE.past.subList(1, 2));
        compare("undo", BEFORE, after, List.of("beliefs", "steps", "rows", "changes"));
        check.due("undo and what is saved", after.saved, BEFORE.saved);
    }

    private static void saveAndRestore() {
        Parts saved = after(SCENE, x -> x.save());
        compare("save", BEFORE, saved, List.of());
        check.due("save saves", saved.saved, BEFORE.whole);
        samePast("save", saved.past, BEFORE.past);
        Parts restored = after(SCENE, x -> x.restore());
        check.due("restore restores", restored.whole, BEFORE.saved);
        check.due("restore leaves the buffer", restored.now.get("buffer"), BEFORE.now.get("buffer"));
        check.due("restore leaves the error position", restored.now.get("error"), BEFORE.now.get("error"));
        change("restore", SCENE, x -> x.restore(),
            "walls marks costs beliefs steps rows restarts hits rover z rate limit sensors motions");
    }
}
