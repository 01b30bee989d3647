/** Promises 1 to 4, 6 and 12 (a new object, shape, corner, closeShape, cls, move), a test for each sentence. */
public final class ShapesTest {
    private static final Class<IndexOutOfBoundsException> OUTSIDE = IndexOutOfBoundsException.class;
    private static final Class<IllegalArgumentException> ARGUMENT = IllegalArgumentException.class;
    private static final Class<IllegalStateException> STATE = IllegalStateException.class;
    private static final int NONE = CleanChecks.NONE;
    private static final long LEAST = -1_000_000;
    private static final long MOST = 1_000_000;
    /** 0 once it is cut down to an int. */
    private static final long ROUND = 1L << 32;
    private static final int[] FAR = {Integer.MIN_VALUE, Integer.MAX_VALUE};
    private static final Due due = new Due("ShapesTest");

    public static void main(String[] args) {
        newObject();
        shape();
        corner();
        closeShape();
        cls();
        move();
        due.end();
    }

    private static void newObject() {
        due.sentence("`NONE = -1`: There is none; any class.", () -> due.is("NONE", CleanChecks.NONE, -1));
        due.sentence("`CleanChecks(int layers)`: No shapes, no rules.", ShapesTest::noShapesNoRules);
        due.sentence("LAYERS are 0 .. LAYERS - 1, 1 to 16", ShapesTest::layers);
        due.sentence("what is told below is 1, above 16", ShapesTest::layersToldWrong);
    }

    private static void shape() {
        due.sentence("A new shape without CORNERS, not closed: its number", ShapesTest::numbers);
        due.sentence("NONE when there are 60", ShapesTest::noneWhenThereAreSixty);
        due.sentence("SHAPES, at most 60", ShapesTest::theSixtyStayAsTheyAre);
        due.sentence("IndexOutOfBoundsException, when there is no such layer", ShapesTest::noSuchLayer);
        due.sentence("IllegalArgumentException, when it is no net, or no KIND", ShapesTest::noNetOrKind);
        due.sentence("of a net (0 .. 999, or NONE)", ShapesTest::nets);
        due.sentence("of a KIND: 0 track, 1 pad, 2 hole, 3 silk", ShapesTest::kindsOfShapes);
        due.sentence("IndexOutOfBoundsException, when there is no such layer; IllegalArgumentException,",
                ShapesTest::layerAheadOfNet);
    }

    private static void corner() {
        due.sentence("One more CORNER: true", ShapesTest::oneMoreCorner);
        due.sentence("false, when there are 8", ShapesTest::noNinthCorner);
        due.sentence("or it is the one ahead of it", ShapesTest::theOneAhead);
        due.sentence("IndexOutOfBoundsException, when there is no such shape; IllegalStateException, when it is closed",
                ShapesTest::cornerOfNoShape);
        due.sentence("IllegalStateException, when it is closed", ShapesTest::cornerOfClosed);
        due.sentence("IllegalArgumentException, when it is no place", ShapesTest::cornerAtNoPlace);
        due.sentence("coordinates -1,000,000 .. 1,000,000", ShapesTest::coordinates);
    }

    private static void closeShape() {
        due.sentence("A shape is closed with a RADIUS: true", ShapesTest::closed);
        due.sentence("false, when it has no CORNER", ShapesTest::notClosedWithoutCorner);
        due.sentence("Throws likewise", ShapesTest::closeThrowsLikewise);
        due.sentence("and when r is none", ShapesTest::noRadius);
        due.sentence("a RADIUS (1 .. 100,000)", ShapesTest::radii);
        due.sentence("A shape has 1 to 8 CORNERS", ShapesTest::oneToEightCorners);
    }

    private static void cls() {
        due.sentence("of a class (0 .. 7, at first 0)", ShapesTest::classes);
        due.sentence("A shape's class: whether it is another one.", ShapesTest::anotherClass);
        due.sentence("IndexOutOfBoundsException, when there is no such shape; IllegalArgumentException, when c is none",
                ShapesTest::classOfNoShape);
        due.sentence("IllegalArgumentException, when c is none", ShapesTest::noClass);
    }

    private static void move() {
        due.sentence("A shape is moved: true", ShapesTest::moved);
        due.sentence("false, changing nothing, when a CORNER would be no place", ShapesTest::movedJustSoFar);
        due.sentence("changing nothing", ShapesTest::refusedMoveChangesNothing);
        due.sentence("when a CORNER would be no place", ShapesTest::movesThatWrapAround);
        due.sentence("when a CORNER would be no place. IndexOutOfBoundsException, when there is no such shape",
                ShapesTest::moveOfNoShape);
    }

    private static void noShapesNoRules() {
        CleanChecks x = new CleanChecks(3);
        due.fails("cls(0, 0)", OUTSIDE, () -> x.cls(0, 0));
        due.fails("corner(0, 0, 0)", OUTSIDE, () -> x.corner(0, 0, 0));
        due.fails("closeShape(0, 1)", OUTSIDE, () -> x.closeShape(0, 1));
        due.fails("move(0, 0, 0)", OUTSIDE, () -> x.move(0, 0, 0));
        due.is("run", x.run(1, 0), 0);
        due.is("the first shape", x.shape(0, 0, 0), 0);
        Board board = crowd();
        due.is("shapes, but no rule", board.run(), 0);
        due.is("the first rule", board.checks.rule(0, NONE, NONE, 0), 0);
    }

    /** Shapes on one place, which break rules of all kinds. */
    private static Board crowd() {
        Board board = new Board(1);
        board.add(Board.TRACK, 1, 0, 1, 0, 0, 9, 0, 0, 1);
        board.add(Board.PAD, 2, 0, 1, 0, 0);
        board.add(Board.HOLE, 3, 0, 1, 0, 0);
        board.add(Board.HOLE, 4, 0, 1, 0, 0);
        board.add(Board.SILK, 5, 0, 1, 0, 0);
        return board;
    }

    private static void layers() {
        for (int told = 1; told <= 16; told++) {
            hasLayers(new CleanChecks(told), told);
        }
    }

    private static void layersToldWrong() {
        for (int told : new int[] {0, -1, -16, Integer.MIN_VALUE}) {
            hasLayers(new CleanChecks(told), 1);
        }
        for (int told : new int[] {17, 18, 65_537, Integer.MAX_VALUE}) {
            hasLayers(new CleanChecks(told), 16);
        }
    }

    private static void hasLayers(CleanChecks x, int layers) {
        for (int layer = 0; layer < layers; layer++) {
            due.is("layer " + layer + " of " + layers, x.shape(0, layer, 0), layer);
        }
        due.fails("layer " + layers, OUTSIDE, () -> x.shape(0, layers, 0));
        due.fails("layer -1", OUTSIDE, () -> x.shape(0, -1, 0));
    }

    private static void numbers() {
        CleanChecks x = new CleanChecks(1);
        for (int number = 0; number < 5; number++) {
            int n = number;
            due.is("shape " + n, x.shape(n, 0, n % 4), n);
            due.no("it has no corner", x.closeShape(n, 1));
            due.yes("it is not closed", x.corner(n, 5, 5));
            due.fails("there is no next one yet", OUTSIDE, () -> x.corner(n + 1, 0, 0));
        }
    }

    private static CleanChecks withSixty() {
        CleanChecks x = new CleanChecks(1);
        for (int i = 0; i < 60; i++) {
            due.is("shape " + i, x.shape(i, 0, Board.PAD), i);
        }
        return x;
    }

    private static void noneWhenThereAreSixty() {
        CleanChecks x = withSixty();
        due.is("one more", x.shape(0, 0, 0), NONE);
        due.is("and one more", x.shape(NONE, 0, 3), NONE);
        due.fails("shape 60", OUTSIDE, () -> x.corner(60, 0, 0));
        due.fails("no layer, when there are 60", OUTSIDE, () -> x.shape(0, 1, 0));
        due.fails("no net, when there are 60", ARGUMENT, () -> x.shape(1000, 0, 0));
        due.fails("no kind, when there are 60", ARGUMENT, () -> x.shape(0, 0, 4));
    }

    private static void theSixtyStayAsTheyAre() {
        CleanChecks x = withSixty();
        for (int i = 0; i < 60; i++) {
            x.corner(i, 60 - i, i);
            due.yes("closed " + i, x.closeShape(i, 1));
        }
        x.shape(0, 0, 2);
        x.rule(1, NONE, NONE, 3);
        due.is("each is looked at", x.run(1, 0), 60);
        due.is("the last is first by its place", x.violation(0, 1), 59);
        due.is("and is where it was told", x.place(0, 1), 59);
        due.is("the first is last", x.violation(59, 1), 0);
    }

    private static void noSuchLayer() {
        CleanChecks x = new CleanChecks(2);
        for (int layer : new int[] {-1, 2, 3, 15, 16, FAR[0], FAR[1]}) {
            due.fails("layer " + layer, OUTSIDE, () -> x.shape(0, layer, 0));
        }
        due.is("none was made", x.shape(0, 1, 0), 0);
    }

    private static void noNetOrKind() {
        CleanChecks x = new CleanChecks(1);
        for (int net : new int[] {-2, -3, 1000, 1001, FAR[0], FAR[1]}) {
            due.fails("net " + net, ARGUMENT, () -> x.shape(net, 0, 0));
        }
        for (int kind : new int[] {-1, 4, 5, FAR[0], FAR[1]}) {
            due.fails("kind " + kind, ARGUMENT, () -> x.shape(0, 0, kind));
        }
        due.is("none was made", x.shape(0, 0, 0), 0);
    }

    private static void nets() {
        int[] nets = {NONE, 0, 1, 998, 999};
        CleanChecks x = new CleanChecks(1);
        for (int i = 0; i < nets.length; i++) {
            due.is("net " + nets[i], x.shape(nets[i], 0, 0), i);
        }
        for (int a : nets) {
            for (int b : nets) {
                Board board = new Board(1).rule(0, 1);
                board.add(Board.PAD, a, 0, 1, 0, 0);
                board.add(Board.PAD, b, 0, 1, 0, 0);
                due.is("nets " + a + ", " + b, board.run(), a == b && a != NONE ? 0 : 1);
            }
        }
    }

    /** What each kind of rule finds in one shape alone: 1 WIDTH, 4 RING, 5 ENDS. */
    private static void kindsOfShapes() {
        int[][] found = {{1, 0, 1}, {1, 0, 0}, {0, 1, 0}, {0, 0, 0}};
        int[] rules = {1, 4, 5};
        for (int kind = 0; kind < 4; kind++) {
            for (int i = 0; i < rules.length; i++) {
                Board board = new Board(1).rule(rules[i], rules[i] == 5 ? 0 : 9);
                board.add(kind, 1, 0, 1, 0, 0);
                due.is("kind " + kind + " by rule " + rules[i], board.run(), found[kind][i]);
            }
        }
    }

    private static void layerAheadOfNet() {
        CleanChecks x = new CleanChecks(1);
        due.fails("layer and net", OUTSIDE, () -> x.shape(1000, 1, 0));
        due.fails("layer and kind", OUTSIDE, () -> x.shape(0, -1, 4));
    }

    private static void oneMoreCorner() {
        CleanChecks x = new CleanChecks(1);
        x.shape(0, 0, 0);
        due.yes("the first, at 0, 0", x.corner(0, 0, 0));
        due.yes("another x", x.corner(0, 7, 0));
        due.yes("another y", x.corner(0, 7, 9));
        due.yes("x and y turned", x.corner(0, 9, 7));
        due.yes("closed", x.closeShape(0, 1));
        x.rule(6, NONE, NONE, 0);
        due.is("the corners make a line with an acute one", x.run(1, 0), 1);
    }

    private static Board withEight() {
        Board board = new Board(1);
        board.open(Board.TRACK, 1, 0, 0, 0, 10, 0, 20, 0, 30, 0, 40, 0, 50, 0, 60, 0, 70, 0);
        return board;
    }

    private static void noNinthCorner() {
        CleanChecks x = withEight().checks;
        due.no("the ninth", x.corner(0, 75, 0));
        due.no("one like the eighth", x.corner(0, 70, 0));
        due.no("another one", x.corner(0, 0, 9));
        due.fails("no place, when there are 8", ARGUMENT, () -> x.corner(0, 0, MOST + 1));
        x.closeShape(0, 1);
        x.shape(2, 0, Board.PAD);
        x.corner(1, 75, 0);
        x.closeShape(1, 1);
        x.rule(0, NONE, NONE, 3);
        due.is("the line ends at the eighth", x.run(1, 0), 0);
        x.rule(0, NONE, NONE, 4);
        due.is("and there it is", x.run(1, 0), 1);
        x.rule(6, NONE, NONE, 0);
        due.is("no corner came of the ninth", x.run(1, 0), 1);
    }

    private static void theOneAhead() {
        CleanChecks x = new CleanChecks(1);
        x.shape(0, 0, 0);
        due.yes("0, 0", x.corner(0, 0, 0));
        due.no("0, 0 again", x.corner(0, 0, 0));
        due.no("and again", x.corner(0, 0, 0));
        due.yes("the same x alone", x.corner(0, 0, 1));
        due.yes("the same y alone", x.corner(0, 1, 1));
        due.no("1, 1 again", x.corner(0, 1, 1));
        due.yes("an earlier one", x.corner(0, 0, 0));
        for (int i = 5; i <= 8; i++) {
            due.yes("those refused took no room: " + i, x.corner(0, i, i));
        }
        due.no("the ninth", x.corner(0, 9, 9));
        x.shape(0, 0, 0);
        due.yes("the last of another shape", x.corner(1, 8, 8));
        x.move(1, 1, 1);
        due.yes("where the one ahead was", x.corner(1, 8, 8));
        x.move(1, -1, -1);
        due.no("where the one ahead is now", x.corner(1, 7, 7));
    }

    private static void cornerOfNoShape() {
        CleanChecks x = new CleanChecks(1);
        due.fails("none yet", OUTSIDE, () -> x.corner(0, 0, 0));
        x.shape(0, 0, 0);
        for (int shape : new int[] {-1, 1, 2, 59, 60, FAR[0], FAR[1]}) {
            due.fails("shape " + shape, OUTSIDE, () -> x.corner(shape, 0, 0));
        }
        due.fails("no shape and no place", OUTSIDE, () -> x.corner(1, MOST + 1, 0));
    }

    private static void cornerOfClosed() {
        CleanChecks x = new CleanChecks(1);
        x.shape(0, 0, 0);
        x.corner(0, 0, 0);
        x.closeShape(0, 1);
        due.fails("one more", STATE, () -> x.corner(0, 7, 7));
        due.fails("the one ahead", STATE, () -> x.corner(0, 0, 0));
        due.fails("closed, and no place", STATE, () -> x.corner(0, MOST + 1, 0));
        CleanChecks full = withEight().checks;
        full.closeShape(0, 1);
        due.fails("closed with 8", STATE, () -> full.corner(0, 7, 7));
    }

    private static void cornerAtNoPlace() {
        CleanChecks x = new CleanChecks(1);
        x.shape(0, 0, 0);
        long[] wrong = {LEAST - 1, MOST + 1, ROUND, -ROUND, Long.MIN_VALUE, Long.MAX_VALUE};
        for (long far : wrong) {
            due.fails("x " + far, ARGUMENT, () -> x.corner(0, far, 0));
            due.fails("y " + far, ARGUMENT, () -> x.corner(0, 0, far));
            due.fails("both " + far, ARGUMENT, () -> x.corner(0, far, far));
        }
        due.no("no corner came of it", x.closeShape(0, 1));
    }

    private static void coordinates() {
        long[] good = {LEAST, LEAST + 1, 0, MOST - 1, MOST};
        for (long a : good) {
            for (long b : good) {
                Board board = new Board(1).rule(1, 3);
                board.add(Board.PAD, 1, 0, 1, a, b);
                due.is("run", board.run(), 1);
                due.is("x", board.checks.place(0, 0), a);
                due.is("y", board.checks.place(0, 1), b);
            }
        }
    }

    private static void closed() {
        Board board = new Board(1).rule(1, 9);
        board.open(Board.PAD, 1, 0, 0, 0);
        due.is("still open", board.run(), 0);
        due.yes("closeShape", board.checks.closeShape(0, 4));
        due.is("closed, with radius 4", board.run(), 1);
        board.rule(1, 8);
        due.is("twice 4 is 8", board.run(), 0);
    }

    private static void notClosedWithoutCorner() {
        CleanChecks x = new CleanChecks(1);
        x.shape(0, 0, 0);
        due.no("no corner", x.closeShape(0, 1));
        due.no("no corner, the widest", x.closeShape(0, 100_000));
        due.fails("no corner and no radius", ARGUMENT, () -> x.closeShape(0, 0));
        due.yes("it is open still", x.corner(0, 1, 1));
        due.yes("with a corner", x.closeShape(0, 1));
    }

    private static void closeThrowsLikewise() {
        CleanChecks x = new CleanChecks(1);
        due.fails("none yet", OUTSIDE, () -> x.closeShape(0, 1));
        x.shape(0, 0, 1);
        x.corner(0, 0, 0);
        for (int shape : new int[] {-1, 1, 2, 60, FAR[0], FAR[1]}) {
            due.fails("shape " + shape, OUTSIDE, () -> x.closeShape(shape, 1));
        }
        due.fails("no shape and no radius", OUTSIDE, () -> x.closeShape(1, 0));
        x.closeShape(0, 4);
        due.fails("closed", STATE, () -> x.closeShape(0, 9));
        due.fails("closed, the same radius", STATE, () -> x.closeShape(0, 4));
        due.fails("closed, and no radius", STATE, () -> x.closeShape(0, 0));
        x.rule(1, NONE, NONE, 9);
        due.is("the radius is the first one", x.run(1, 0), 1);
    }

    private static void noRadius() {
        CleanChecks x = new CleanChecks(1);
        x.shape(0, 0, 1);
        x.corner(0, 0, 0);
        long[] wrong = {0, -1, 100_001, ROUND + 1, -ROUND + 1, Long.MIN_VALUE, Long.MAX_VALUE};
        for (long r : wrong) {
            due.fails("radius " + r, ARGUMENT, () -> x.closeShape(0, r));
        }
        x.rule(1, NONE, NONE, 100_000);
        due.is("not closed by any", x.run(1, 0), 0);
        due.yes("one more corner", x.corner(0, 1, 0));
        due.yes("a good one", x.closeShape(0, 1));
    }

    private static void radii() {
        for (long r : new long[] {1, 2, 99_999, 100_000}) {
            Board board = new Board(1).rule(0, 0);
            board.open(Board.PAD, 1, 0, 0, 0);
            due.yes("radius " + r, board.checks.closeShape(0, r));
            board.add(Board.PAD, 2, 0, 1, r + 1, 0);
            due.is("it reaches so far", board.run(), 0);
            board.checks.move(1, -1, 0);
            due.is("and no less", board.run(), 1);
        }
    }

    private static void oneToEightCorners() {
        for (int corners = 1; corners <= 8; corners++) {
            Board board = new Board(1).rule(0, 4);
            long[] line = new long[2 * corners];
            for (int i = 0; i < corners; i++) {
                line[2 * i] = 20 * i;
                line[2 * i + 1] = 30 * (i % 2);
            }
            board.add(Board.TRACK, 1, 0, 1, line);
            long[] last = {line[2 * corners - 2] + 5, line[2 * corners - 1]};
            board.add(Board.PAD, 2, 0, 1, last);
            due.is("the last of " + corners + " is part of the line", board.run(), 1);
            board.checks.move(1, 1, 0);
            due.is("and one farther is not near it", board.run(), 0);
        }
    }

    private static void classes() {
        CleanChecks x = new CleanChecks(1);
        x.shape(0, 0, 0);
        due.no("0 at first", x.cls(0, 0));
        for (int c = 1; c <= 7; c++) {
            due.yes("class " + c, x.cls(0, c));
        }
        due.yes("class 0 again", x.cls(0, 0));
        for (int c = 0; c <= 7; c++) {
            Board board = new Board(1);
            board.add(Board.PAD, 1, 0, 1, 0, 0);
            board.checks.rule(1, c, NONE, 3);
            due.is("a rule of class " + c + " for a new shape", board.run(), c == 0 ? 1 : 0);
            board.checks.cls(0, c);
            due.is("and for one of that class", board.run(), 1);
        }
    }

    private static void anotherClass() {
        CleanChecks x = new CleanChecks(1);
        x.shape(0, 0, 0);
        x.shape(0, 0, 0);
        due.yes("class 7", x.cls(0, 7));
        due.no("class 7 again", x.cls(0, 7));
        due.no("the other one is of class 0 still", x.cls(1, 0));
        x.corner(0, 0, 0);
        x.closeShape(0, 1);
        due.no("a closed one, as it was", x.cls(0, 7));
        due.yes("a closed one, another", x.cls(0, 1));
    }

    private static void classOfNoShape() {
        CleanChecks x = new CleanChecks(1);
        due.fails("none yet", OUTSIDE, () -> x.cls(0, 0));
        x.shape(0, 0, 0);
        for (int shape : new int[] {-1, 1, 60, FAR[0], FAR[1]}) {
            due.fails("shape " + shape, OUTSIDE, () -> x.cls(shape, 0));
        }
        due.fails("no shape and no class", OUTSIDE, () -> x.cls(1, 8));
    }

    private static void noClass() {
        CleanChecks x = new CleanChecks(1);
        x.shape(0, 0, 0);
        x.cls(0, 7);
        for (int c : new int[] {NONE, -2, 8, 9, FAR[0], FAR[1]}) {
            due.fails("class " + c, ARGUMENT, () -> x.cls(0, c));
        }
        due.no("it is of class 7 still", x.cls(0, 7));
    }

    /** A track without its width, whose place tells where it is. */
    private static Board narrow(long... corners) {
        Board board = new Board(1).rule(1, 5);
        board.add(Board.TRACK, 1, 0, 1, corners);
        return board;
    }

    private static void isAt(Board board, long x, long y) {
        board.run();
        due.is("x", board.checks.place(0, 0), x);
        due.is("y", board.checks.place(0, 1), y);
    }

    private static void moved() {
        Board board = narrow(3, 4, 10, 4);
        due.yes("by 7, -9", board.checks.move(0, 7, -9));
        isAt(board, 10, -5);
        due.yes("not at all", board.checks.move(0, 0, 0));
        isAt(board, 10, -5);
        board.add(Board.PAD, 2, 0, 5, 17 + 6, -5);
        board.rule(0, 1);
        due.is("every corner is moved", board.run(), 2);
        CleanChecks eight = withEight().checks;
        due.yes("one of eight corners", eight.move(0, 5, 5));
        eight.closeShape(0, 1);
        due.yes("and when it is closed", eight.move(0, 5, 5));
        Board open = new Board(1);
        open.open(Board.TRACK, 1, 0, 3, 4, 10, 4);
        due.yes("one that is not closed", open.checks.move(0, 1, 1));
        due.no("its last corner too", open.checks.corner(0, 11, 5));
        open.checks.shape(0, 0, 0);
        due.yes("one without corners", open.checks.move(1, 5, 5));
        due.yes("which has none after it", open.checks.corner(1, 0, 0));
    }

    private static void movedJustSoFar() {
        Board board = narrow(-999_990, -20, 999_990, 999_000);
        CleanChecks x = board.checks;
        due.no("one too far right", x.move(0, 11, 0));
        due.no("one too far left", x.move(0, -11, 0));
        due.no("one too far up", x.move(0, 0, 1_001));
        due.no("one too far down", x.move(0, 0, -999_981));
        isAt(board, -999_990, -20);
        due.yes("just so far right and up", x.move(0, 10, 1_000));
        isAt(board, -999_980, 980);
        due.yes("just so far left and down", x.move(0, -20, -1_000_980));
        isAt(board, LEAST, LEAST);
        Board across = narrow(LEAST, MOST);
        due.no("one too far across", across.checks.move(0, 2_000_001, 0));
        due.no("one too far across, down", across.checks.move(0, 0, -2_000_001));
        due.yes("all across", across.checks.move(0, 2_000_000, -2_000_000));
        isAt(across, MOST, LEAST);
        due.yes("and back", across.checks.move(0, -2_000_000, 2_000_000));
        isAt(across, LEAST, MOST);
    }

    /** The last corner is refused after the first ones would have been moved. */
    private static void refusedMoveChangesNothing() {
        Board board = narrow(0, 0, 100, 0, 999_999, 0);
        due.no("the last corner alone is too far", board.checks.move(0, 2, 0));
        due.no("and by y", board.checks.move(0, 1, MOST + 1));
        isAt(board, 0, 0);
        due.yes("plain", board.checks.plain());
        due.no("x would do, y would not", board.checks.move(0, -5, LEAST - 1));
        isAt(board, 0, 0);
        due.yes("by 1 it may be", board.checks.move(0, 1, 0));
        isAt(board, 1, 0);
        Board open = new Board(1);
        open.open(Board.TRACK, 1, 0, 0, 0, MOST, 0);
        due.no("one that is not closed", open.checks.move(0, 1, 0));
        due.no("its last corner is where it was", open.checks.corner(0, MOST, 0));
    }

    private static void movesThatWrapAround() {
        long[] far = {ROUND, -ROUND, ROUND + 1, Long.MAX_VALUE, Long.MIN_VALUE, Long.MAX_VALUE - MOST,
            Long.MIN_VALUE + MOST};
        for (long start : new long[] {LEAST, 0, MOST}) {
            Board board = narrow(start, start);
            for (long by : far) {
                due.no("x by " + by, board.checks.move(0, by, 0));
                due.no("y by " + by, board.checks.move(0, 0, by));
                due.no("both by " + by, board.checks.move(0, by, by));
            }
            isAt(board, start, start);
        }
    }

    private static void moveOfNoShape() {
        CleanChecks x = new CleanChecks(1);
        due.fails("none yet", OUTSIDE, () -> x.move(0, 0, 0));
        x.shape(0, 0, 0);
        for (int shape : new int[] {-1, 1, 60, FAR[0], FAR[1]}) {
            due.fails("shape " + shape, OUTSIDE, () -> x.move(shape, 0, 0));
        }
        due.fails("no shape, and far off", OUTSIDE, () -> x.move(1, Long.MAX_VALUE, 0));
    }
}
