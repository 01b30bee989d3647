/** Promises 1 to 4: a new object, shape, corner, closeShape. */
public final class ShapesTest {
    private static final Class<IndexOutOfBoundsException> OUTSIDE = IndexOutOfBoundsException.class;
    private static final Class<IllegalArgumentException> ARGUMENT = IllegalArgumentException.class;
    private static final Class<IllegalStateException> STATE = IllegalStateException.class;
    private static final Due due = new Due("ShapesTest");

    public static void main(String[] args) {
        newObject();
        layersAreBounded();
        shape();
        atMostSixtyShapes();
        corner();
        atMostEightCorners();
        closeShape();
        openShapesAreNotLookedAt();
        due.end();
    }

    private static void newObject() {
        CleanChecks x = new CleanChecks(3);
        due.is("NONE", CleanChecks.NONE, -1);
        due.is("kinds", x.kinds(), 0);
        due.yes("plain", x.plain());
        due.is("near", x.near(Long.MIN_VALUE, Long.MIN_VALUE, Long.MAX_VALUE, Long.MAX_VALUE), 0);
        due.fails("violation(0, 0)", OUTSIDE, () -> x.violation(0, 0));
        due.fails("cls(0, 0)", OUTSIDE, () -> x.cls(0, 0));
        due.is("run", x.run(1, 0), 0);
        due.is("first shape", x.shape(0, 0, 0), 0);
        due.is("first rule", x.rule(0, 0, 0, 0), 0);
    }

    private static void layersAreBounded() {
        int[] told = {Integer.MIN_VALUE, -1, 0, 1, 2, 15, 16, 17, Integer.MAX_VALUE};
        int[] held = {1, 1, 1, 1, 2, 15, 16, 16, 16};
        for (int i = 0; i < told.length; i++) {
            CleanChecks x = new CleanChecks(told[i]);
            int layers = held[i];
            due.is("last layer of " + told[i], x.shape(0, layers - 1, 0), 0);
            due.fails("layer above in " + told[i], OUTSIDE, () -> x.shape(0, layers, 0));
        }
    }

    private static void shape() {
        CleanChecks x = new CleanChecks(2);
        due.is("shape(NONE, 0, 0)", x.shape(CleanChecks.NONE, 0, 0), 0);
        due.is("shape(0, 1, 1)", x.shape(0, 1, 1), 1);
        due.is("shape(999, 0, 2)", x.shape(999, 0, 2), 2);
        due.is("shape(5, 0, 3)", x.shape(5, 0, 3), 3);
        due.fails("layer -1", OUTSIDE, () -> x.shape(0, -1, 0));
        due.fails("layer 2", OUTSIDE, () -> x.shape(0, 2, 0));
        due.fails("layer and net wrong", OUTSIDE, () -> x.shape(1000, 2, 9));
        due.fails("net -2", ARGUMENT, () -> x.shape(-2, 0, 0));
        due.fails("net 1000", ARGUMENT, () -> x.shape(1000, 0, 0));
        due.fails("kind -1", ARGUMENT, () -> x.shape(0, 0, -1));
        due.fails("kind 4", ARGUMENT, () -> x.shape(0, 0, 4));
        due.is("numbers go on", x.shape(5, 0, 3), 4);
        due.no("a new shape has no corner", x.closeShape(4, 1));
    }

    private static void atMostSixtyShapes() {
        CleanChecks x = new CleanChecks(1);
        for (int i = 0; i < 60; i++) {
            due.is("shape " + i, x.shape(i, 0, i % 4), i);
        }
        due.is("shape 60", x.shape(0, 0, 0), CleanChecks.NONE);
        due.fails("wrong net when full", ARGUMENT, () -> x.shape(1000, 0, 0));
        due.fails("wrong layer when full", OUTSIDE, () -> x.shape(0, 1, 0));
        due.fails("corner of shape 60", OUTSIDE, () -> x.corner(60, 0, 0));
        due.yes("corner of shape 59", x.corner(59, 0, 0));
    }

    private static void corner() {
        CleanChecks x = new CleanChecks(1);
        due.fails("no shape yet", OUTSIDE, () -> x.corner(0, 0, 0));
        x.shape(0, 0, 0);
        due.yes("least place", x.corner(0, -1_000_000, -1_000_000));
        due.no("the same again", x.corner(0, -1_000_000, -1_000_000));
        due.yes("most place", x.corner(0, 1_000_000, 1_000_000));
        due.yes("an earlier place", x.corner(0, -1_000_000, -1_000_000));
        due.yes("other x alone", x.corner(0, 0, -1_000_000));
        due.yes("other y alone", x.corner(0, 0, 0));
        due.fails("shape -1", OUTSIDE, () -> x.corner(-1, 0, 0));
        due.fails("shape 1", OUTSIDE, () -> x.corner(1, 2_000_000, 0));
        due.fails("x below", ARGUMENT, () -> x.corner(0, -1_000_001, 0));
        due.fails("x above", ARGUMENT, () -> x.corner(0, 1_000_001, 0));
        due.fails("y below", ARGUMENT, () -> x.corner(0, 0, -1_000_001));
        due.fails("y above", ARGUMENT, () -> x.corner(0, 0, 1_000_001));
        due.fails("far off", ARGUMENT, () -> x.corner(0, Long.MIN_VALUE, Long.MAX_VALUE));
        due.yes("closed", x.closeShape(0, 1));
        due.fails("closed, no place", STATE, () -> x.corner(0, 1_000_001, 0));
        due.fails("closed", STATE, () -> x.corner(0, 7, 7));
    }

    private static void atMostEightCorners() {
        CleanChecks x = new CleanChecks(1);
        x.shape(0, 0, 0);
        for (int i = 0; i < 8; i++) {
            due.yes("corner " + i, x.corner(0, i, 0));
        }
        due.no("corner 8", x.corner(0, 8, 0));
        due.fails("no place when full", ARGUMENT, () -> x.corner(0, 0, 1_000_001));
        due.yes("closed with 8", x.closeShape(0, 1));
    }

    private static void closeShape() {
        CleanChecks x = new CleanChecks(1);
        due.fails("no shape yet", OUTSIDE, () -> x.closeShape(0, 0));
        x.shape(0, 0, 0);
        due.no("no corner", x.closeShape(0, 1));
        due.fails("no corner, no radius", ARGUMENT, () -> x.closeShape(0, 0));
        due.yes("still open", x.corner(0, 1, 1));
        due.fails("shape -1", OUTSIDE, () -> x.closeShape(-1, 1));
        due.fails("radius 0", ARGUMENT, () -> x.closeShape(0, 0));
        due.fails("radius -1", ARGUMENT, () -> x.closeShape(0, -1));
        due.fails("radius 100,001", ARGUMENT, () -> x.closeShape(0, 100_001));
        due.fails("radius far off", ARGUMENT, () -> x.closeShape(0, Long.MIN_VALUE));
        due.yes("radius 100,000", x.closeShape(0, 100_000));
        due.fails("closed already", STATE, () -> x.closeShape(0, 1));
        due.fails("closed already, no radius", STATE, () -> x.closeShape(0, 0));
        x.shape(0, 0, 0);
        x.corner(1, 0, 0);
        due.yes("radius 1", x.closeShape(1, 1));
    }

    private static void openShapesAreNotLookedAt() {
        Board board = new Board(1).rule(0, 10).rule(1, 10).rule(2, 10).rule(3, 10).rule(4, 0).rule(5, 0).rule(6, 0);
        board.open(Board.TRACK, 1, 0, 0, 0, 10, 0, 0, 1);
        board.open(Board.PAD, 2, 0, 0, 0);
        board.open(Board.HOLE, 3, 0, 0, 0);
        board.open(Board.HOLE, 3, 0, 0, 0);
        board.open(Board.SILK, 4, 0, 0, 0);
        due.is("only open ones", board.run(), 0);
        board.add(Board.PAD, 5, 0, 5, 0, 0);
        board.add(Board.HOLE, 3, 0, 5, 0, 0);
        due.is("a hole without ring alone", board.run(), 1);
        due.is("its kind", board.checks.violation(0, 0), 4);
        board.checks.closeShape(1, 9);
        board.checks.cls(1, 1);
        due.is("two pads too close, no ring", board.run(), 2);
    }
}
