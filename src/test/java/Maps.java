/** Gives texts to a locator, four characters a call. */
final class Maps {
    private Maps() {
    }

    static int pack(String signs) {
        int packed = 0;
        for (int i = 0; i < signs.length(); i++) {
            packed = packed << 8 | signs.charAt(i);
        }
        return packed;
    }

    static RoverLocator append(RoverLocator x, String text) {
        for (int i = 0; i < text.length(); i += 4) {
            x.append(pack(text.substring(i, Math.min(text.length(), i + 4))));
        }
        return x;
    }

    static RoverLocator of(String map) {
        RoverLocator x = append(new RoverLocator(), map);
        x.load();
        return x;
    }

    static String textOf(RoverLocator x) {
        StringBuilder text = new StringBuilder();
        for (int i = 0; i < x.map(-1); i++) {
            text.append((char) x.map(i));
        }
        return text.toString();
    }

    static String beliefsOf(RoverLocator x) {
        StringBuilder text = new StringBuilder();
        for (int cell = 0; cell < x.count(0) * x.count(1); cell++) {
            text.append(cell == 0 ? "" : " ").append(x.belief(cell));
        }
        return text.toString();
    }
}
