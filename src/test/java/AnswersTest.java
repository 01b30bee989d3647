/** Promises 8 to 16: what is asked of the latest run, and what changes after it. */
public final class AnswersTest {
    private static final Class<IndexOutOfBoundsException> OUTSIDE = IndexOutOfBoundsException.class;
    private static final Class<IllegalArgumentException> ARGUMENT = IllegalArgumentException.class;
    private static final Due due = new Due("AnswersTest");

    public static void main(String[] args) {
        inOrder();
        samePlaceByKindThenShapes();
        partsOfAViolation();
        placeAsItWasThen();
        waive();
        waivedByKindAndShapes();
        atMostSixtyWaived();
        near();
        move();
        plain();
        kinds();
        strips();
        stripsAndWorkersChangeNothing();
        fullBoard();
        due.end();
    }

    private static void row(CleanChecks x, int k, int kind, int a, int b, int layer) {
        due.is("kind of " + k, x.violation(k, 0), kind);
        due.is("a of " + k, x.violation(k, 1), a);
        due.is("b of " + k, x.violation(k, 2), b);
        due.is("layer of " + k, x.order(k), layer);
    }

    private static void inOrder() {
        Board board = new Board(16).rule(1, 100);
        board.add(Board.PAD, 1, 15, 1, -9, -9);
        board.add(Board.PAD, 1, 0, 1, 5, -5);
        board.add(Board.PAD, 1, 0, 1, -5, 7);
        board.add(Board.PAD, 1, 0, 1, -5, -7);
        board.add(Board.PAD, 1, 3, 1, -1_000_000, 1_000_000);
        board.add(Board.PAD, 1, 0, 1, 5, -5);
        due.is("run", board.run(), 6);
        int[] numbers = {3, 2, 1, 5, 4, 0};
        int[] layers = {0, 0, 0, 0, 3, 15};
        for (int k = 0; k < 6; k++) {
            row(board.checks, k, 1, numbers[k], CleanChecks.NONE, layers[k]);
        }
        due.is("least x", board.checks.place(4, 0), -1_000_000);
        due.is("most y", board.checks.place(4, 1), 1_000_000);
    }

    private static void samePlaceByKindThenShapes() {
        Board board = new Board(1).rule(6, 0).rule(5, 0).rule(1, 100).rule(0, 50);
        board.add(Board.TRACK, 1, 0, 1, 0, 0, 9, 0, 0, 1);
        board.add(Board.TRACK, 2, 0, 1, 0, 0);
        board.add(Board.TRACK, 3, 0, 1, 0, 0);
        due.is("run", board.run(), 10);
        int none = CleanChecks.NONE;
        int[][] rows = {{0, 0, 1}, {0, 0, 2}, {0, 1, 2}, {1, 0, none}, {1, 1, none}, {1, 2, none},
            {5, 0, none}, {5, 1, none}, {5, 2, none}, {6, 0, none}};
        for (int k = 0; k < rows.length; k++) {
            row(board.checks, k, rows[k][0], rows[k][1], rows[k][2], 0);
        }
    }

    private static void partsOfAViolation() {
        Board board = new Board(1).rule(0, 6);
        board.add(Board.PAD, 1, 0, 1, 3, 4);
        board.add(Board.PAD, 2, 0, 1, -3, 0);
        CleanChecks x = board.checks;
        due.fails("before a run", OUTSIDE, () -> x.violation(0, 0));
        board.run();
        row(x, 0, 0, 0, 1, 0);
        due.is("not waived", x.violation(0, 3), 0);
        due.is("x is that of a", x.place(0, 0), 3);
        due.is("y is that of a", x.place(0, 1), 4);
        due.fails("violation(-1, 0)", OUTSIDE, () -> x.violation(-1, 0));
        due.fails("violation(1, 0)", OUTSIDE, () -> x.violation(1, 0));
        due.fails("violation(MAX, 0)", OUTSIDE, () -> x.violation(Integer.MAX_VALUE, 0));
        due.fails("violation(0, -1)", OUTSIDE, () -> x.violation(0, -1));
        due.fails("violation(0, 4)", OUTSIDE, () -> x.violation(0, 4));
        due.fails("place(-1, 0)", OUTSIDE, () -> x.place(-1, 0));
        due.fails("place(1, 0)", OUTSIDE, () -> x.place(1, 0));
        due.fails("place(0, -1)", OUTSIDE, () -> x.place(0, -1));
        due.fails("place(0, 2)", OUTSIDE, () -> x.place(0, 2));
        due.fails("order(-1)", OUTSIDE, () -> x.order(-1));
        due.fails("order(1)", OUTSIDE, () -> x.order(1));
        due.fails("waive(-1)", OUTSIDE, () -> x.waive(-1));
        due.fails("waive(1)", OUTSIDE, () -> x.waive(1));
    }

    private static void placeAsItWasThen() {
        Board board = new Board(1).rule(1, 5);
        board.add(Board.TRACK, 1, 0, 1, 3, 4, 100, 100);
        board.run();
        due.yes("moved", board.checks.move(0, 10, 20));
        due.is("x as it was", board.checks.place(0, 0), 3);
        due.is("y as it was", board.checks.place(0, 1), 4);
        due.is("near as it was", board.checks.near(3, 4, 3, 4), 1);
        board.run();
        due.is("x now", board.checks.place(0, 0), 13);
        due.is("y now", board.checks.place(0, 1), 24);
    }

    private static void waive() {
        Board board = new Board(1).rule(1, 5);
        board.add(Board.PAD, 1, 0, 1, 0, 0);
        board.add(Board.PAD, 1, 0, 1, 5, 0);
        CleanChecks x = board.checks;
        due.is("run", board.run(), 2);
        due.yes("waive(0)", x.waive(0));
        due.no("waive(0) again", x.waive(0));
        due.is("waived now", x.violation(0, 3), 1);
        due.is("the other is not", x.violation(1, 3), 0);
        due.is("not counted", board.run(), 1);
        due.is("but found", x.violation(0, 1), 0);
        due.yes("plain looks at no waiver", x.plain());
        due.is("near counts it", x.near(0, 0, 0, 0), 1);
        x.move(0, 50, 0);
        due.is("waived where it goes", board.run(), 1);
        due.is("it is the last now", x.violation(1, 1), 0);
        due.is("waived there", x.violation(1, 3), 1);
        x.rule(1, CleanChecks.NONE, CleanChecks.NONE, 0);
        due.is("none", board.run(), 0);
        x.rule(1, CleanChecks.NONE, CleanChecks.NONE, 9);
        due.is("waived when it comes again", board.run(), 1);
    }

    private static void waivedByKindAndShapes() {
        Board board = new Board(1).rule(1, 5).rule(5, 0).rule(0, 50);
        board.add(Board.TRACK, 1, 0, 1, 0, 0);
        board.add(Board.PAD, 2, 0, 9, 0, 0);
        board.add(Board.PAD, 3, 0, 9, 0, 0);
        due.is("run", board.run(), 5);
        due.yes("waive 0, 1", board.checks.waive(0));
        due.is("another b", board.checks.violation(1, 3), 0);
        due.is("another a", board.checks.violation(2, 3), 0);
        due.is("another kind", board.checks.violation(3, 3), 0);
        due.yes("waive width", board.checks.waive(3));
        due.is("ends", board.checks.violation(4, 3), 0);
        due.is("run again", board.run(), 3);
    }

    private static void atMostSixtyWaived() {
        Board board = new Board(1).rule(0, 5);
        for (int i = 0; i < 12; i++) {
            board.add(Board.PAD, i, 0, 1, 0, 0);
        }
        due.is("run", board.run(), 66);
        for (int k = 0; k < 60; k++) {
            due.yes("waive " + k, board.checks.waive(k));
        }
        due.no("waive 60", board.checks.waive(60));
        due.is("60 is not waived", board.checks.violation(60, 3), 0);
        due.is("run again", board.run(), 6);
        due.fails("waive 66", OUTSIDE, () -> board.checks.waive(66));
    }

    private static void near() {
        Board board = new Board(2).rule(1, 5);
        board.add(Board.TRACK, 1, 0, 1, 10, 20, 500, 500);
        board.add(Board.PAD, 1, 1, 1, -10, -20);
        CleanChecks x = board.checks;
        due.is("before a run", x.near(-100, -100, 100, 100), 0);
        board.run();
        due.is("both", x.near(-10, -20, 10, 20), 2);
        due.is("x0", x.near(-9, -20, 10, 20), 1);
        due.is("y0", x.near(-10, -19, 10, 20), 1);
        due.is("x1", x.near(-10, -20, 9, 20), 1);
        due.is("y1", x.near(-10, -20, 10, 19), 1);
        due.is("one place", x.near(10, 20, 10, 20), 1);
        due.is("another corner is not the place", x.near(500, 500, 500, 500), 0);
        due.is("all", x.near(Long.MIN_VALUE, Long.MIN_VALUE, Long.MAX_VALUE, Long.MAX_VALUE), 2);
        due.fails("x turned", ARGUMENT, () -> x.near(1, 0, 0, 0));
        due.fails("y turned", ARGUMENT, () -> x.near(0, 1, 0, 0));
        due.fails("far turned", ARGUMENT, () -> x.near(Long.MAX_VALUE, 0, Long.MIN_VALUE, 0));
    }

    private static void move() {
        Board board = new Board(1).rule(1, 5);
        board.open(Board.TRACK, 1, 0, -999_990, 0, 999_990, 999_000);
        CleanChecks x = board.checks;
        due.fails("shape -1", OUTSIDE, () -> x.move(-1, 0, 0));
        due.fails("shape 1", OUTSIDE, () -> x.move(1, 0, 0));
        due.no("too far right", x.move(0, 11, 0));
        due.no("too far left", x.move(0, -11, 0));
        due.no("too far up", x.move(0, 0, 1_001));
        due.no("too far down", x.move(0, 0, -1_000_001));
        due.no("far off", x.move(0, Long.MAX_VALUE, 0));
        due.no("far off", x.move(0, 0, Long.MIN_VALUE));
        due.yes("not at all", x.move(0, 0, 0));
        due.no("the last corner is where it was", x.corner(0, 999_990, 999_000));
        due.yes("an open one, just so far", x.move(0, 10, 1_000));
        due.no("the last corner is moved", x.corner(0, 1_000_000, 1_000_000));
        x.closeShape(0, 1);
        board.run();
        due.is("x", x.place(0, 0), -999_980);
        due.is("y", x.place(0, 1), 1_000);
        due.yes("a closed one", x.move(0, -20, -1_001_000));
        board.run();
        due.is("x", x.place(0, 0), -1_000_000);
        due.is("y", x.place(0, 1), -1_000_000);
        board.add(Board.PAD, 1, 0, 9, -1_000_000, 1_000_000);
        due.no("one too far across", x.move(1, 2_000_001, 0));
        due.yes("all across", x.move(1, 2_000_000, -2_000_000));
        due.yes("and back", x.move(1, -2_000_000, 2_000_000));
        x.shape(0, 0, 0);
        due.yes("without corners, however far", x.move(2, Long.MAX_VALUE, Long.MIN_VALUE));
        due.yes("and nothing is changed", x.corner(2, 0, 0));
    }

    private static void plain() {
        Board board = new Board(1);
        CleanChecks x = board.checks;
        board.add(Board.TRACK, 1, 0, 1, 0, 0, 90, 0);
        due.yes("none without a run, none now", x.plain());
        board.rule(1, 5);
        due.no("none without a run, one now", x.plain());
        due.is("plain is no run", x.kinds(), 0);
        board.run();
        due.yes("after the run", x.plain());
        x.move(0, 1, 0);
        due.no("at another place", x.plain());
        due.is("the latest run stays", x.place(0, 0), 0);
        x.move(0, -1, 0);
        due.yes("at the old place", x.plain());
        x.rule(1, 0, 0, 9);
        due.yes("another rule, the same violation", x.plain());
        board.add(Board.PAD, 2, 0, 9, 500, 500);
        due.yes("a shape that breaks nothing", x.plain());
        x.cls(1, 2);
        x.rule(1, 2, 0, 99);
        due.no("one more", x.plain());
        x.rule(1, 0, 0, 0);
        due.no("another one", x.plain());
        x.strips(3);
        x.run(2, 5);
        due.yes("plain by strips", x.plain());
        x.waive(0);
        due.yes("waived", x.plain());
    }

    private static void kinds() {
        Board board = new Board(1).rule(0, 0).rule(1, 9).rule(2, 9).rule(3, 9).rule(4, 9).rule(5, 0).rule(6, 0);
        CleanChecks x = board.checks;
        board.add(Board.TRACK, 1, 0, 1, 0, 0, 9, 0, 0, 1);
        due.is("before a run", x.kinds(), 0);
        board.run();
        due.is("width, ends, acute", x.kinds(), 3);
        board.add(Board.PAD, 2, 0, 1, 0, 0);
        board.add(Board.HOLE, 2, 0, 1, 0, 0);
        board.add(Board.HOLE, 2, 0, 1, 0, 0);
        board.add(Board.SILK, 2, 0, 1, 0, 0);
        due.is("as it was", x.kinds(), 3);
        board.run();
        due.is("all", x.kinds(), 7);
        x.waive(0);
        due.is("waived ones too", x.kinds(), 7);
    }

    private static void strips() {
        CleanChecks x = new CleanChecks(1);
        due.is("8 at first", x.strips(1), 8);
        due.is("1", x.strips(64), 1);
        due.fails("0", ARGUMENT, () -> x.strips(0));
        due.fails("65", ARGUMENT, () -> x.strips(65));
        due.fails("-1", ARGUMENT, () -> x.strips(-1));
        due.is("64", x.strips(64), 64);
        due.is("64 again", x.strips(2), 64);
    }

    /** A fresh board each time, as an object is promised for 512 calls alone. */
    private static void stripsAndWorkersChangeNothing() {
        String rows = rowsBy(8, 1, 0);
        due.yes("there are rows of each kind", rows.contains("kinds 4"));
        for (int strips : new int[] {1, 2, 7, 8, 63, 64}) {
            for (int workers = 1; workers <= 8; workers++) {
                for (long seed : new long[] {Long.MIN_VALUE, -1, 0, 1, 77, Long.MAX_VALUE}) {
                    String call = "strips " + strips + ", workers " + workers + ", seed " + seed;
                    due.yes(call, rows.equals(rowsBy(strips, workers, seed)));
                }
            }
        }
    }

    private static String rowsBy(int strips, int workers, long seed) {
        Board board = new Board(2).rule(0, 100_000).rule(1, 9).rule(5, 0).rule(6, 0);
        for (int i = 0; i < 11; i++) {
            long x = 1_000_000 - i * 200_000;
            board.add(i % 3 / 2, i % 3, i % 2, 1, x, -x, -x, 7, x, 9);
        }
        board.checks.strips(strips);
        int run = board.checks.run(workers, seed);
        return "run " + run + " kinds " + board.checks.kinds() + " plain " + board.checks.plain() + '\n'
                + rows(board.checks);
    }

    private static String rows(CleanChecks x) {
        StringBuilder all = new StringBuilder();
        int count = x.near(Long.MIN_VALUE, Long.MIN_VALUE, Long.MAX_VALUE, Long.MAX_VALUE);
        for (int k = 0; k < count; k++) {
            all.append(x.order(k)).append(' ').append(x.place(k, 0)).append(' ').append(x.place(k, 1)).append(' ');
            all.append(x.violation(k, 0)).append(' ').append(x.violation(k, 1)).append(' ');
            all.append(x.violation(k, 2)).append('\n');
        }
        return all.toString();
    }

    /** As many violations as there can be: every pair, and three of each track. */
    private static void fullBoard() {
        Board board = new Board(1).rule(0, 5).rule(1, 9).rule(5, 0).rule(6, 0);
        for (int i = 0; i < 60; i++) {
            board.add(Board.TRACK, i, 0, 1, 60 - i, 0, 90, 0, 60 - i, 1);
        }
        due.is("run", board.run(), 60 * 59 / 2 + 180);
        due.is("the first", board.checks.violation(0, 1), 59);
        due.is("the last", board.checks.violation(1949, 1), 0);
        due.is("its kind", board.checks.violation(1949, 0), 6);
        due.fails("no more", OUTSIDE, () -> board.checks.order(1950));
        due.yes("plain", board.checks.plain());
    }
}
