/** Texts that hold all that can be asked of an object: whoever is in the same state has the same portrait. */
final class Portrait {
    private static final int CHANGES = 6;

    private Portrait() {
    }

    /** All of it: what is now, what undo leads back to, what the buffer holds and what was saved. */
    static String of(Scene scene) {
        StringBuilder text = new StringBuilder();
        for (int back = 0; back <= CHANGES + 1; back++) {
            RoverLocator x = scene.make();
            text.append("\nback ").append(back).append(':');
            for (int i = 0; i < back; i++) {
                text.append(' ').append(Check.outcome(() -> x.undo()));
            }
            addAll(x, text);
        }
        RoverLocator loaded = scene.make();
        text.append("\nwith one more cell: ").append(Check.outcome(() -> loaded.append('.')));
        text.append(" loaded: ").append(Check.outcome(() -> loaded.load()));
        addAll(loaded, text);
        RoverLocator restored = scene.make();
        text.append("\nrestored: ").append(Check.outcome(() -> restored.restore()));
        addAll(restored, text);
        return text.toString();
    }

    private static void addAll(RoverLocator x, StringBuilder text) {
        text.append(' ').append(x.errorPosition()).append(' ').append(x.count(5)).append(' ').append(x.count(6));
        text.append(' ').append(now(x));
    }

    /** What undo takes back and save saves; a full row of changes has lost its oldest one afterwards. */
    static String now(RoverLocator x) {
        StringBuilder text = new StringBuilder(Maps.textOf(x) + " " + Maps.beliefsOf(x));
        addCells(x, text);
        addSteps(x, text);
        for (int what = 0; what < 5; what++) {
            text.append(' ').append(x.count(what));
        }
        text.append(' ').append(x.rover());
        addTables(x, text);
        return text.toString();
    }

    private static void addCells(RoverLocator x, StringBuilder text) {
        int cells = x.count(0) * x.count(1);
        for (int cell = 0; cell < cells; cell++) {
            int from = cell;
            text.append(" cell ").append(x.cell(cell, 2)).append(' ').append(x.cell(cell, 3));
            text.append(' ').append(x.ranked(cell)).append(' ').append(Check.outcome(() -> x.exact(from)));
            for (int to = 0; to < cells; to++) {
                text.append(' ').append(x.motion(from, to, 1));
            }
        }
    }

    private static void addSteps(RoverLocator x, StringBuilder text) {
        text.append(" steps ").append(x.steps(0)).append(' ').append(x.steps(1)).append(' ').append(x.steps(2));
        for (int index = 0; index < x.steps(0); index++) {
            int step = index;
            text.append(' ').append(Check.outcome(() -> x.step(step)));
            text.append(' ').append(Check.outcome(() -> x.path(step + 1)));
        }
        text.append(' ').append(Check.outcome(() -> x.path(0)));
        text.append(' ').append(Check.outcome(() -> x.pathWeight()));
    }

    /** What only a change tells is asked by one and taken back. */
    private static void addTables(RoverLocator x, StringBuilder text) {
        text.append(" seed ").append(x.seed(0));
        x.undo();
        text.append(" rate ").append(x.setRate(0));
        x.undo();
        text.append(" limit ").append(x.setLimit(0));
        x.undo();
        text.append(" sensors");
        for (int i = 0; i < 16; i++) {
            text.append(' ').append(x.setSensor(i / 4, i % 4, 0));
            x.undo();
        }
    }
}
