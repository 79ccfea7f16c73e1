/** Gives texts to a locator, four characters a call, and reads texts from one. */
final class Maps {
    private Maps() {
    }

    static int pack(String signs) {
        int packed = 0;
        for (int i = 0; i < signs.length(); i++) {
            packed = packed << 8 | signs.charAt(i);
        }
        return packed;
    }

    static RoverLocator append(RoverLocator x, String text) {
        for (int i = 0; i < text.length(); i += 4) {
            x.append(pack(text.substring(i, Math.min(text.length(), i + 4))));
        }
        return x;
    }

    static RoverLocator of(String map) {
        RoverLocator x = append(new RoverLocator(), map);
        x.load();
        return x;
    }

    /** A map of free cells with mark 0. */
    static String free(int width, int height) {
        return (".".repeat(width) + "/").repeat(height).substring(0, height * (width + 1) - 1);
    }

    static String textOf(RoverLocator x) {
        StringBuilder text = new StringBuilder();
        int length = x.map(-1);
        for (int i = 0; i < length; i++) {
            text.append((char) x.map(i));
        }
        return text.toString();
    }

    static String beliefsOf(RoverLocator x) {
        StringBuilder text = new StringBuilder();
        int cells = x.count(0) * x.count(1);
        for (int cell = 0; cell < cells; cell++) {
            text.append(cell == 0 ? "" : " ").append(x.belief(cell));
        }
        return text.toString();
    }
}
