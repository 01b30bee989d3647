/** Makes whole shapes in one call, so that a test shows only what it is about. */
final class Board {
    static final int TRACK = 0;
    static final int PAD = 1;
    static final int HOLE = 2;
    static final int SILK = 3;
    static final int ANY = CleanChecks.NONE;

    final CleanChecks checks;

    Board(int layers) {
        checks = new CleanChecks(layers);
    }

    /** A closed shape; the corners are told as x, y, x, y, .. */
    int add(int kind, int net, int layer, long radius, long... corners) {
        int number = open(kind, net, layer, corners);
        if (!checks.closeShape(number, radius)) {
            throw new IllegalStateException("not closed: " + number);
        }
        return number;
    }

    int open(int kind, int net, int layer, long... corners) {
        int number = checks.shape(net, layer, kind);
        for (int i = 0; i + 1 < corners.length; i += 2) {
            if (!checks.corner(number, corners[i], corners[i + 1])) {
                throw new IllegalStateException("no corner: " + i);
            }
        }
        return number;
    }

    Board rule(int kind, long value) {
        checks.rule(kind, ANY, ANY, value);
        return this;
    }

    int run() {
        return checks.run(1, 0);
    }
}
