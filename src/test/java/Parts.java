import java.util.ArrayList;
import java.util.LinkedHashMap;
import java.util.List;
import java.util.Map;

/** All that an object holds, part by part; where asking changes something, an object of its own is asked. */
final class Parts {
    private static final int CHANGES = 6;

    final Scene scene;
    final Map<String, String> now = new LinkedHashMap<>();
    /** What undo leads back to, from the latest change on. */
    final List<String> past = new ArrayList<>();
    /** What restore leads to, or the name of what it throws. */
    final String saved;
    /** All of what undo takes back and save saves, as undo and restore would show it. */
    final String whole;

    Parts(Scene scene) {
        this.scene = scene;
        addGrid(scene.make());
        addSteps(scene.make());
        addCounts(scene.make());
        addTables(scene);
        addBuffer(scene);
        whole = Portrait.now(scene.make());
        RoverLocator restored = scene.make();
        String outcome = Check.outcome(() -> restored.restore());
        saved = outcome.endsWith("Exception") ? outcome : Portrait.now(restored);
        int changes = scene.make().count(6);
        for (int back = 1; back <= Math.min(changes, CHANGES); back++) {
            RoverLocator x = scene.make();
            for (int i = 0; i < back; i++) {
                x.undo();
            }
            past.add(Portrait.now(x));
        }
        now.put("changes", "" + changes);
    }

    private void addGrid(RoverLocator x) {
        int cells = x.count(0) * x.count(1);
        StringBuilder[] properties = {new StringBuilder(), new StringBuilder(), new StringBuilder()};
        for (int cell = 0; cell < cells; cell++) {
            for (int what = 0; what < 3; what++) {
                properties[what].append(x.cell(cell, what));
            }
        }
        now.put("size", x.count(0) + " by " + x.count(1));
        now.put("walls", properties[0].toString());
        now.put("marks", properties[1].toString());
        now.put("costs", properties[2].toString());
        now.put("beliefs", Maps.beliefsOf(x));
    }

    private void addSteps(RoverLocator x) {
        StringBuilder steps = new StringBuilder(x.steps(1) + " and " + x.steps(2));
        StringBuilder rows = new StringBuilder(Check.outcome(() -> x.pathWeight()));
        int all = x.steps(0);
        for (int i = 0; i <= all; i++) {
            int index = i;
            steps.append(' ').append(Check.outcome(() -> x.step(index)));
            rows.append(' ').append(Check.outcome(() -> x.path(index)));
        }
        for (int c = 0; c < x.count(0) * x.count(1); c++) {
            int cell = c;
            rows.append(' ').append(Check.outcome(() -> x.exact(cell)));
        }
        now.put("steps", steps.toString());
        now.put("rows", rows.toString());
    }

    private void addCounts(RoverLocator x) {
        now.put("restarts", "" + x.count(3));
        now.put("hits", "" + x.count(4));
        now.put("rover", "" + x.rover());
        now.put("error", "" + x.errorPosition());
    }

    private void addTables(Scene scene) {
        now.put("z", "" + scene.make().seed(0));
        now.put("rate", "" + scene.make().setRate(0));
        now.put("limit", "" + scene.make().setLimit(0));
        RoverLocator x = scene.make();
        StringBuilder sensors = new StringBuilder();
        for (int i = 0; i < 16; i++) {
            sensors.append(' ').append(x.setSensor(i / 4, i % 4, 0));
        }
        now.put("sensors", sensors.toString());
        Check.outcome(() -> x.load());
        Maps.append(x, Maps.free(3, 3));
        x.load();
        now.put("motions", x.motion(4, 1, 0) + " " + x.motion(4, 3, 0) + " " + x.motion(4, 5, 0));
    }

    /** The characters are told by the map that they make, or by where they have an error. */
    private void addBuffer(Scene scene) {
        RoverLocator x = scene.make();
        StringBuilder buffer = new StringBuilder(x.count(5) + " ");
        String outcome = Check.outcome(() -> x.load());
        buffer.append(outcome.endsWith("Exception") ? "error at " + x.errorPosition() : Maps.textOf(x));
        now.put("buffer", buffer.toString());
    }
}
