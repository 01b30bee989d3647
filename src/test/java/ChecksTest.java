/** Promise 7 and the terms: what each kind of rule finds, and what it lets pass. */
public final class ChecksTest {
    private static final int NONE = CleanChecks.NONE;
    private static final Due due = new Due("ChecksTest");

    public static void main(String[] args) {
        clear();
        clearNetsAndLayers();
        clearOfLines();
        clearExactlyFarOut();
        clearAtWholeDistances();
        width();
        holes();
        silk();
        ring();
        ringOfLines();
        ends();
        endsInOtherCopper();
        acute();
        run();
        due.end();
    }

    private static int found(int kind, long value, Board board) {
        board.rule(kind, value);
        return board.run();
    }

    private static Board pair(int kindA, int kindB, long x, long y) {
        Board board = new Board(2);
        board.add(kindA, 1, 0, 2, 0, 0);
        board.add(kindB, 2, 0, 3, x, y);
        return board;
    }

    private static void clear() {
        int[][] copper = {{0, 0}, {0, 1}, {1, 0}, {1, 1}};
        for (int[] kinds : copper) {
            due.is("5 apart by 5", found(0, 5, pair(kinds[0], kinds[1], 6, 8)), 0);
            due.is("5 apart by 6", found(0, 6, pair(kinds[0], kinds[1], 6, 8)), 1);
        }
        due.is("touching by 0", found(0, 0, pair(0, 1, 3, 4)), 0);
        due.is("touching by 1", found(0, 1, pair(0, 1, 3, 4)), 1);
        due.is("over each other by 0", found(0, 0, pair(0, 1, 3, 3)), 1);
        due.is("on one place by 0", found(0, 0, pair(0, 1, 0, 0)), 1);
        due.is("track and hole", found(0, 100, pair(0, 2, 0, 0)), 0);
        due.is("pad and silk", found(0, 100, pair(1, 3, 0, 0)), 0);
    }

    private static void clearNetsAndLayers() {
        Board one = new Board(2);
        one.add(Board.PAD, 1, 0, 2, 0, 0);
        one.add(Board.PAD, 1, 0, 2, 1, 0);
        due.is("of one net", found(0, 9, one), 0);
        Board without = new Board(2);
        without.add(Board.PAD, NONE, 0, 2, 0, 0);
        without.add(Board.PAD, NONE, 0, 2, 1, 0);
        due.is("without net", found(0, 9, without), 1);
        Board layers = new Board(2);
        layers.add(Board.PAD, 1, 0, 2, 0, 0);
        layers.add(Board.PAD, 2, 1, 2, 0, 0);
        due.is("on two layers", found(0, 9, layers), 0);
    }

    private static Board tracks(long[] a, long[] b) {
        Board board = new Board(1);
        board.add(Board.TRACK, 1, 0, 1, a);
        board.add(Board.TRACK, 2, 0, 1, b);
        return board;
    }

    private static void clearOfLines() {
        due.is("crossing, ends far off", found(0, 0, tracks(new long[] {-50, 0, 50, 0}, new long[] {0, -50, 0, 50})), 1);
        due.is("ending on the other", found(0, 0, tracks(new long[] {-50, 0, 50, 0}, new long[] {0, 0, 0, 50})), 1);
        due.is("on one straight line, far", found(0, 3, tracks(new long[] {0, 0, 5, 0}, new long[] {10, 0, 20, 0})), 0);
        due.is("on one straight line, close", found(0, 4, tracks(new long[] {0, 0, 5, 0}, new long[] {10, 0, 20, 0})), 1);
        due.is("over each other on one line", found(0, 0, tracks(new long[] {0, 0, 15, 0}, new long[] {10, 0, 20, 0})), 1);
        due.is("the last piece counts", found(0, 4, tracks(new long[] {0, 0, 0, 90, 90, 90}, new long[] {80, 95})), 1);
        due.is("and just far enough", found(0, 3, tracks(new long[] {0, 0, 0, 90, 90, 90}, new long[] {80, 95})), 0);
        due.is("first and last are not joined", found(0, 9, tracks(new long[] {0, 0, 90, 0, 0, 90}, new long[] {0, 45})), 0);
        due.is("the later piece crosses", found(0, 0,
                tracks(new long[] {0, 0, 0, 100, 100, 100}, new long[] {300, 0, 50, 0, 50, 200})), 1);
    }

    /** Far out, the squares of the products are above what a long holds. */
    private static void clearExactlyFarOut() {
        long[] slope = {-800_000, -600_000, 800_000, 600_000};
        for (long m : new long[] {1, 7, 20_000}) {
            long apart = 5 * m - 2;
            due.is("slope just far enough " + m, found(0, apart, far(slope, -3 * m, 4 * m)), 0);
            due.is("slope one too close " + m, found(0, apart + 1, far(slope, -3 * m, 4 * m)), 1);
        }
        Board wide = new Board(1);
        wide.add(Board.PAD, 1, 0, 100_000, slope);
        wide.add(Board.PAD, 2, 0, 100_000, -180_000, 240_000);
        due.is("widest, just far enough", found(0, 100_000, wide), 0);
        wide.checks.move(1, 1, 0);
        due.is("widest, moved closer", wide.run(), 1);
        Board corners = new Board(1);
        corners.add(Board.PAD, 1, 0, 1, -1_000_000, -1_000_000, 1_000_000, 1_000_000);
        corners.add(Board.PAD, 2, 0, 1, -1_000_000, 1_000_000, 1_000_000, -1_000_000);
        due.is("both diagonals", found(0, 0, corners), 1);
    }

    /** Slopes whose lengths are whole: the distance is exactly the limit, which another writing of the product shows. */
    private static void clearAtWholeDistances() {
        long[][] slopes = {{3, 4, 5}, {5, 12, 13}, {20, 21, 29}, {119, 120, 169}, {696, 697, 985}, {4_059, 4_060, 5_741}};
        for (long[] slope : slopes) {
            for (long times : new long[] {1, 3, 77, 1_000_000 / slope[1]}) {
                for (long off = 1; off * slope[2] <= 100_000; off = off * 3 + 1) {
                    wholeDistance(slope, times, off);
                }
            }
        }
    }

    private static void wholeDistance(long[] slope, long times, long off) {
        if (times * slope[1] > 1_000_000) {
            return;
        }
        long x = slope[0] * times;
        long y = slope[1] * times;
        long footX = times == 1 ? 0 : slope[0];
        long footY = times == 1 ? 0 : slope[1];
        Board board = far(new long[] {-x, -y, x, y}, footX - slope[1] * off, footY + slope[0] * off);
        String call = slope[2] + " times " + times + ", off by " + off;
        due.is("just far enough, " + call, found(0, slope[2] * off - 2, board), 0);
        due.is("one too close, " + call, found(0, slope[2] * off - 1, board), 1);
    }

    private static Board far(long[] line, long x, long y) {
        Board board = new Board(1);
        board.add(Board.PAD, 1, 0, 1, line);
        board.add(Board.PAD, 2, 0, 1, x, y);
        return board;
    }

    private static void width() {
        for (int kind = 0; kind < 4; kind++) {
            Board board = new Board(1);
            board.add(kind, 1, 0, 5, 0, 0);
            due.is("width 10 of 10, kind " + kind, found(1, 10, board), 0);
            due.is("width 10 of 11, kind " + kind, found(1, 11, board), kind < 2 ? 1 : 0);
        }
    }

    private static void holes() {
        due.is("5 apart by 5", found(2, 5, pair(2, 2, 10, 0)), 0);
        due.is("5 apart by 6", found(2, 6, pair(2, 2, 10, 0)), 1);
        due.is("hole and pad", found(2, 6, pair(2, 1, 10, 0)), 0);
        Board board = new Board(2);
        board.add(Board.HOLE, 1, 1, 2, 0, 0);
        board.add(Board.HOLE, 1, 0, 2, 5, 0);
        due.is("of one net, on two layers", found(2, 2, board), 1);
        due.is("layer of a", board.checks.order(0), 1);
        due.is("by 1", found(2, 1, board), 0);
    }

    private static void silk() {
        due.is("silk and pad, 5 by 5", found(3, 5, pair(3, 1, 0, 10)), 0);
        due.is("silk and pad, 5 by 6", found(3, 6, pair(3, 1, 0, 10)), 1);
        due.is("pad and silk, 5 by 6", found(3, 6, pair(1, 3, 0, 10)), 1);
        due.is("silk and track", found(3, 6, pair(3, 0, 0, 10)), 0);
        due.is("silk and silk", found(3, 6, pair(3, 3, 0, 10)), 0);
        due.is("pad and pad", found(3, 6, pair(1, 1, 0, 10)), 0);
        due.is("silk and hole", found(3, 6, pair(3, 2, 0, 10)), 0);
        Board net = new Board(2);
        net.add(Board.SILK, 1, 0, 2, 0, 0);
        net.add(Board.PAD, 1, 0, 2, 0, 0);
        net.add(Board.PAD, 1, 1, 2, 0, 0);
        due.is("of one net; not on another layer", found(3, 0, net), 1);
    }

    /** A hole of radius 2 and a pad of radius 10. */
    private static Board holeAndPad(int holeNet, int padNet, long x, long y) {
        Board board = new Board(2);
        board.add(Board.HOLE, holeNet, 0, 2, 0, 0);
        board.add(Board.PAD, padNet, 1, 10, x, y);
        return board;
    }

    private static void ring() {
        due.is("5 off, 3 left", found(4, 3, holeAndPad(1, 1, 3, 4)), 0);
        due.is("5 off, 4 asked", found(4, 4, holeAndPad(1, 1, 3, 4)), 1);
        due.is("on one place, 8 left", found(4, 8, holeAndPad(1, 1, 0, 0)), 0);
        due.is("on one place, 9 asked", found(4, 9, holeAndPad(1, 1, 0, 0)), 1);
        due.is("value far above the pad", found(4, 100_000, holeAndPad(1, 1, 0, 0)), 1);
        due.is("pad of another net", found(4, 0, holeAndPad(1, 2, 0, 0)), 1);
        due.is("both without net", found(4, 0, holeAndPad(NONE, NONE, 0, 0)), 1);
        Board track = new Board(1);
        track.add(Board.HOLE, 1, 0, 2, 0, 0);
        track.add(Board.TRACK, 1, 0, 50, 0, 0);
        due.is("a track is no ring", found(4, 0, track), 1);
        Board second = holeAndPad(1, 1, 90, 90);
        due.is("the pad is far off", found(4, 0, second), 1);
        second.add(Board.PAD, 1, 0, 4, 0, 0);
        due.is("another pad holds it", second.run(), 0);
        due.is("no rule of the class", noRing(), 0);
    }

    private static int noRing() {
        Board board = new Board(1);
        board.add(Board.HOLE, 1, 0, 2, 0, 0);
        board.checks.rule(4, 1, 0, 0);
        return board.run();
    }

    private static void ringOfLines() {
        Board slot = new Board(1);
        slot.add(Board.HOLE, 1, 0, 2, 0, 0, 100, 0);
        slot.add(Board.PAD, 1, 0, 5, 0, 0);
        slot.add(Board.PAD, 1, 0, 5, 100, 0);
        due.is("one pad has to hold every corner", found(4, 1, slot), 1);
        slot.add(Board.PAD, 1, 0, 5, -10, 2, 120, 2);
        due.is("a long pad does", slot.run(), 0);
        due.is("with 2", found(4, 2, slot), 1);
        Board bent = new Board(1);
        bent.add(Board.HOLE, 1, 0, 2, 0, 0, 50, 50, 100, 0);
        bent.add(Board.PAD, 1, 0, 5, 0, 0, 100, 0);
        due.is("an inner corner counts", found(4, 0, bent), 1);
        Board long8 = new Board(1);
        long8.add(Board.HOLE, 1, 0, 2, 500, 500, 510, 500, 520, 500, 530, 500, 540, 500, 550, 500, 560, 500, 570, 500);
        long8.add(Board.PAD, 1, 0, 5, 500, 503, 570, 503);
        due.is("eight corners, far from the origin", found(4, 0, long8), 0);
        Board two = new Board(1);
        two.add(Board.HOLE, 1, 0, 2, 500, 500, 510, 500);
        two.add(Board.PAD, 1, 0, 5, 500, 503, 570, 503);
        due.is("two corners, far from the origin", found(4, 0, two), 0);
    }

    private static Board trackBetween(int net, int padNet, long firstX, long lastX) {
        Board board = new Board(2);
        board.add(Board.TRACK, net, 0, 1, 0, 0, 50, 50, 100, 0);
        board.add(Board.PAD, padNet, 0, 5, firstX, 0);
        board.add(Board.PAD, padNet, 0, 5, lastX, 0);
        return board;
    }

    private static void ends() {
        due.is("both in pads", found(5, 0, trackBetween(1, 1, 0, 100)), 0);
        due.is("both on the border", found(5, 0, trackBetween(1, 1, -5, 105)), 0);
        due.is("the first is loose", found(5, 0, trackBetween(1, 1, -6, 105)), 1);
        due.is("the last is loose", found(5, 0, trackBetween(1, 1, -5, 106)), 1);
        due.is("both are loose: once", found(5, 0, trackBetween(1, 1, -6, 106)), 1);
        due.is("of another net", found(5, 0, trackBetween(1, 2, 0, 100)), 1);
        due.is("without net", found(5, 0, trackBetween(NONE, NONE, 0, 100)), 1);
        Board layers = new Board(2);
        layers.add(Board.TRACK, 1, 0, 1, 0, 0);
        layers.add(Board.PAD, 1, 1, 5, 0, 0);
        due.is("on another layer", found(5, 0, layers), 1);
    }

    private static void endsInOtherCopper() {
        Board alone = new Board(1);
        alone.add(Board.TRACK, 1, 0, 1, 0, 0, 10, 0, 10, 10, 0, 0);
        due.is("in itself does not count", found(5, 0, alone), 1);
        alone.add(Board.HOLE, 1, 0, 5, 0, 0);
        alone.add(Board.SILK, 1, 0, 5, 0, 0);
        due.is("hole and silk are no copper", alone.run(), 1);
        alone.add(Board.TRACK, 1, 0, 5, -90, 4, 90, 4);
        due.is("a track is; its own ends are loose", alone.run(), 1);
        due.is("the later track's", alone.checks.violation(0, 1), 3);
        Board single = new Board(1);
        single.add(Board.TRACK, 1, 0, 1, 0, 0);
        single.add(Board.PAD, 1, 0, 1, 1, 0);
        due.is("a track of one corner", found(5, 0, single), 0);
    }

    private static int acuteOf(int kind, long... corners) {
        Board board = new Board(1);
        board.add(kind, 1, 0, 1, corners);
        return found(6, 0, board);
    }

    private static void acute() {
        due.is("right", acuteOf(0, 0, 0, 10, 0, 10, 10), 0);
        due.is("right, turned", acuteOf(0, 0, 0, 3, 4, 7, 1), 0);
        due.is("just less", acuteOf(0, 0, 0, 1_000_000, 0, 999_999, 1_000_000), 1);
        due.is("just more", acuteOf(0, 0, 0, 999_999, 0, 1_000_000, 1_000_000), 0);
        due.is("straight on", acuteOf(0, 0, 0, 10, 0, 20, 0), 0);
        due.is("back on itself", acuteOf(0, 0, 0, 10, 0, 5, 0), 1);
        due.is("two corners", acuteOf(0, 0, 0, 10, 0), 0);
        due.is("one corner", acuteOf(0, 0, 0), 0);
        due.is("the last inner one", acuteOf(0, 0, 0, 10, 0, 20, 0, 30, 0, 29, 1), 1);
        due.is("two of them: once", acuteOf(0, 0, 0, 10, 0, 0, 1, 10, 1), 1);
        due.is("first and last on one place", acuteOf(0, 0, 0, 10, 0, 10, 10, 0, 10, 0, 0), 0);
        due.is("a pad", acuteOf(1, 0, 0, 10, 0, 5, 0), 0);
        due.is("the whole width", acuteOf(0, -1_000_000, -1_000_000, 1_000_000, 1_000_000, -1_000_000, -999_999), 1);
    }

    private static void run() {
        Board board = new Board(1);
        board.add(Board.PAD, 1, 0, 1, 0, 0);
        board.rule(1, 3);
        CleanChecks x = board.checks;
        due.is("1 worker", x.run(1, 0), 1);
        due.is("8 workers", x.run(8, Long.MIN_VALUE), 1);
        due.fails("0 workers", IllegalArgumentException.class, () -> x.run(0, 0));
        due.fails("9 workers", IllegalArgumentException.class, () -> x.run(9, 0));
        due.fails("-1 workers", IllegalArgumentException.class, () -> x.run(-1, 0));
        x.rule(1, NONE, NONE, 2);
        due.fails("MIN workers", IllegalArgumentException.class, () -> x.run(Integer.MIN_VALUE, 0));
        due.is("a refused run changes nothing", x.violation(0, 0), 1);
        due.is("none now", x.run(8, Long.MAX_VALUE), 0);
        due.fails("the latest run has none", IndexOutOfBoundsException.class, () -> x.violation(0, 0));
    }
}
