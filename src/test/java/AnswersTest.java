/** Promises 7 to 11 and 13 to 16 (run, and what is asked of the latest one), a test for each sentence. */
public final class AnswersTest {
    private static final Class<IndexOutOfBoundsException> OUTSIDE = IndexOutOfBoundsException.class;
    private static final Class<IllegalArgumentException> ARGUMENT = IllegalArgumentException.class;
    private static final int NONE = CleanChecks.NONE;
    /** 0 once it is cut down to an int. */
    private static final long ROUND = 1L << 32;
    private static final int[] FAR = {Integer.MIN_VALUE, Integer.MAX_VALUE};
    private static final Due due = new Due("AnswersTest");

    public static void main(String[] args) {
        run();
        violations();
        violationAndPlace();
        waive();
        near();
        plain();
        kindsAndOrder();
        strips();
        due.end();
    }

    private static void run() {
        due.sentence("Checks all, by so many workers (1 .. 8)", AnswersTest::workers);
        due.sentence("IllegalArgumentException, when workers are not so", AnswersTest::noSuchWorkers);
        due.sentence("strips in an order by a seed", AnswersTest::seeds);
        due.sentence("how many VIOLATIONS there are that are not WAIVED", AnswersTest::notWaived);
        due.sentence("strips and workers change nothing", AnswersTest::stripsAndWorkersChangeNothing);
        due.sentence("An object is used for at most 512 calls", AnswersTest::fiveHundredAndTwelveCalls);
    }

    private static void violations() {
        due.sentence("VIOLATIONS are of a rule's kind and one shape, or two", AnswersTest::oneShapeOrTwo);
        due.sentence("(a with the lower number, b)", AnswersTest::lowerNumberFirst);
        due.sentence("each once", AnswersTest::eachOnce);
        due.sentence("Its PLACE is the first CORNER of a, its layer that of a.", AnswersTest::placeAndLayerOfA);
        due.sentence("They are in order by layer", AnswersTest::orderByLayer);
        due.sentence("then PLACE (x, then y)", AnswersTest::orderByPlace);
        due.sentence("then kind, then a, then b", AnswersTest::orderByKindAndShapes);
    }

    private static void violationAndPlace() {
        due.sentence("Of the k-th VIOLATION of the latest run, from 0", AnswersTest::ofTheLatestRun);
        due.sentence("kind (what 0), a (1), b, or NONE (2)", AnswersTest::partsOfAViolation);
        due.sentence("1 when it is WAIVED now, or 0 (3)", AnswersTest::waivedNow);
        due.sentence("IndexOutOfBoundsException, when there is none such, or what", AnswersTest::noSuchViolation);
        due.sentence("Its PLACE, as it was then", AnswersTest::placeAsItWasThen);
        due.sentence("x (axis 0), y (1)", AnswersTest::axes);
        due.sentence("IndexOutOfBoundsException likewise.", AnswersTest::noSuchPlace);
    }

    private static void waive() {
        due.sentence("A VIOLATION of the latest run is WAIVED from now on: true", AnswersTest::waivedFromNowOn);
        due.sentence("false, when it is already", AnswersTest::waivedAlready);
        due.sentence("or 60 are", AnswersTest::atMostSixtyWaived);
        due.sentence("or 60 are. IndexOutOfBoundsException, when there is none such", AnswersTest::waiveNoneSuch);
        due.sentence("A violation is WAIVED when one of its kind and shapes is.", AnswersTest::waivedByKindAndShapes);
    }

    private static void near() {
        due.sentence("have their PLACE in a box", AnswersTest::placesInABox);
        due.sentence("(its border counts)", AnswersTest::borderCounts);
        due.sentence("How many VIOLATIONS of the latest run have their PLACE", AnswersTest::nearOfTheLatestRun);
        due.sentence("when it is turned (x0 above x1, or y0 above y1)", AnswersTest::turnedBox);
    }

    private static void plain() {
        due.sentence("(none without any)", AnswersTest::plainWithoutRun);
        due.sentence("Whether the VIOLATIONS of the latest run", AnswersTest::plainByViolations);
        due.sentence("are those that there are now, with their PLACES", AnswersTest::plainByPlaces);
    }

    private static void kindsAndOrder() {
        due.sentence("Of how many kinds there are VIOLATIONS in the latest run.", AnswersTest::kinds);
        due.sentence("The layer of the k-th VIOLATION.", AnswersTest::order);
        due.sentence("The layer of the k-th VIOLATION. IndexOutOfBoundsException, when there is none such",
                AnswersTest::orderOfNoneSuch);
    }

    private static void strips() {
        due.sentence("Checks go by n strips (1 .. 64, at first 8) from now on: by how many they went.",
                AnswersTest::stripsBefore);
        due.sentence("(1 .. 64, at first 8)", AnswersTest::eachNumberOfStrips);
        due.sentence("IllegalArgumentException, when n is not so", AnswersTest::noSuchStrips);
    }

    /** Pads of width 2 in a row, each of which breaks a rule of width. */
    private static Board narrowPads(int count) {
        Board board = new Board(1).rule(1, 5);
        for (int i = 0; i < count; i++) {
            board.add(Board.PAD, i, 0, 1, 10 * i, 7);
        }
        return board;
    }

    private static int countFound(CleanChecks x) {
        return x.near(Long.MIN_VALUE, Long.MIN_VALUE, Long.MAX_VALUE, Long.MAX_VALUE);
    }

    private static void row(CleanChecks x, int k, int kind, int a, int b) {
        due.is("kind of " + k, x.violation(k, 0), kind);
        due.is("a of " + k, x.violation(k, 1), a);
        due.is("b of " + k, x.violation(k, 2), b);
    }

    private static void workers() {
        Board board = narrowPads(9);
        for (int workers = 1; workers <= 8; workers++) {
            due.is(workers + " workers", board.checks.run(workers, 0), 9);
        }
        CleanChecks empty = new CleanChecks(1);
        due.is("no shapes", empty.run(1, 0), 0);
        due.is("no shapes, 8 workers", empty.run(8, 0), 0);
        board.rule(1, 2);
        due.is("no violations", board.checks.run(8, 0), 0);
    }

    private static void noSuchWorkers() {
        Board board = narrowPads(2);
        board.run();
        board.rule(1, 2);
        for (int workers : new int[] {0, -1, 9, 10, 64, FAR[0], FAR[1]}) {
            due.fails(workers + " workers", ARGUMENT, () -> board.checks.run(workers, 0));
        }
        due.is("the latest run is the one before", countFound(board.checks), 2);
        due.is("by 8 there are none now", board.checks.run(8, 0), 0);
    }

    private static void seeds() {
        long[] seeds = {Long.MIN_VALUE, Long.MIN_VALUE + 1, -ROUND, -65, -64, -8, -1, 0, 1, 7, 8, 63, 64, ROUND,
            Long.MAX_VALUE};
        for (int strips : new int[] {1, 3, 8, 64}) {
            Board board = narrowPads(9);
            board.checks.strips(strips);
            for (long seed : seeds) {
                due.is("seed " + seed + ", strips " + strips, board.checks.run(3, seed), 9);
                due.is("the first", board.checks.violation(0, 1), 0);
                due.is("the last", board.checks.violation(8, 1), 8);
            }
        }
    }

    private static void notWaived() {
        Board board = narrowPads(3);
        for (int k = 0; k < 3; k++) {
            due.is(k + " are waived", board.run(), 3 - k);
            due.is("all are found", countFound(board.checks), 3);
            board.checks.waive(k);
        }
        due.is("all are waived", board.run(), 0);
        due.is("and found", countFound(board.checks), 3);
    }

    /** A fresh board each time, as an object is promised for 512 calls alone. */
    private static void stripsAndWorkersChangeNothing() {
        String rows = rowsBy(8, 1, 0);
        due.yes("there are rows of four kinds", rows.contains("kinds 4"));
        for (int strips : new int[] {1, 2, 7, 8, 63, 64}) {
            for (int workers = 1; workers <= 8; workers++) {
                for (long seed : new long[] {Long.MIN_VALUE, -1, 0, 1, 77, Long.MAX_VALUE}) {
                    String call = "strips " + strips + ", workers " + workers + ", seed " + seed;
                    due.yes(call, rows.equals(rowsBy(strips, workers, seed)));
                }
            }
        }
    }

    /** From one end of the plane to the other, with lines through many strips. */
    private static String rowsBy(int strips, int workers, long seed) {
        Board board = new Board(2).rule(0, 100_000).rule(1, 9).rule(5, 0).rule(6, 0);
        for (int i = 0; i < 11; i++) {
            long x = 1_000_000 - i * 200_000;
            board.add(i % 3 / 2, i % 3, i % 2, 1, x, -x, -x, 7, x, 9);
        }
        board.checks.strips(strips);
        int run = board.checks.run(workers, seed);
        return "run " + run + " kinds " + board.checks.kinds() + " plain " + board.checks.plain() + '\n'
                + rows(board.checks);
    }

    private static String rows(CleanChecks x) {
        StringBuilder all = new StringBuilder();
        int count = countFound(x);
        for (int k = 0; k < count; k++) {
            all.append(x.order(k)).append(' ').append(x.place(k, 0)).append(' ').append(x.place(k, 1)).append(' ');
            all.append(x.violation(k, 0)).append(' ').append(x.violation(k, 1)).append(' ');
            all.append(x.violation(k, 2)).append('\n');
        }
        return all.toString();
    }

    /** As many violations as there can be, every pair and three of each track, up to the last call. */
    private static void fiveHundredAndTwelveCalls() {
        Board board = new Board(1).rule(0, 5).rule(1, 9).rule(5, 0).rule(6, 0);
        for (int i = 0; i < 60; i++) {
            board.add(Board.TRACK, i, 0, 1, 60 - i, 0, 90, 0, 60 - i, 1, 90, 1);
        }
        CleanChecks x = board.checks;
        int all = 60 * 59 / 2 + 180;
        int calls = 4 + 60 * 6;
        while (calls + 4 <= 511) {
            due.is("run", x.run(1 + calls % 8, calls), all);
            due.yes("plain", x.plain());
            due.is("the first", x.violation(0, 1), 59);
            due.is("the last", x.violation(all - 1, 1), 0);
            calls += 4;
        }
        for (; calls < 511; calls++) {
            due.is("near", countFound(x), all);
        }
        due.fails("call 512", OUTSIDE, () -> x.order(all));
    }

    private static void oneShapeOrTwo() {
        Board board = new Board(1).rule(0, 9).rule(1, 9).rule(2, 9).rule(3, 9).rule(4, 9).rule(5, 0).rule(6, 0);
        board.add(Board.TRACK, 1, 0, 1, 0, 0, 9, 0, 0, 1);
        board.add(Board.PAD, 2, 0, 1, 0, 0);
        board.add(Board.HOLE, 2, 0, 1, 0, 0);
        board.add(Board.HOLE, 2, 0, 1, 0, 0);
        board.add(Board.SILK, 2, 0, 1, 0, 0);
        due.is("run", board.run(), 9);
        int[][] rows = {{0, 0, 1}, {1, 0, NONE}, {1, 1, NONE}, {2, 2, 3}, {3, 1, 4}, {4, 2, NONE}, {4, 3, NONE},
            {5, 0, NONE}, {6, 0, NONE}};
        for (int k = 0; k < rows.length; k++) {
            row(board.checks, k, rows[k][0], rows[k][1], rows[k][2]);
        }
    }

    private static void lowerNumberFirst() {
        Board clear = new Board(1).rule(0, 9);
        clear.add(Board.PAD, 1, 0, 1, 5, 5);
        clear.add(Board.TRACK, 2, 0, 1, 0, 0);
        due.is("run", clear.run(), 1);
        row(clear.checks, 0, 0, 0, 1);
        Board silk = new Board(1).rule(3, 9);
        silk.add(Board.PAD, 1, 0, 1, 5, 5);
        silk.add(Board.SILK, 2, 0, 1, 0, 0);
        silk.add(Board.PAD, 3, 0, 1, -5, -5);
        due.is("run", silk.run(), 2);
        row(silk.checks, 0, 3, 1, 2);
        row(silk.checks, 1, 3, 0, 1);
    }

    private static void eachOnce() {
        Board board = new Board(1).rule(0, 5).rule(0, 6).rule(1, 5).rule(1, 6).rule(5, 0).rule(5, 0).rule(6, 0);
        board.add(Board.TRACK, 1, 0, 1, 0, 0, 9, 0, 0, 1, 9, 1, 0, 2);
        board.add(Board.TRACK, 2, 0, 1, 0, 0, 9, 0, 0, 1, 9, 1, 0, 2);
        due.is("run", board.run(), 1 + 2 + 2 + 2);
        due.is("found", countFound(board.checks), 7);
        due.is("run again", board.run(), 7);
    }

    private static void placeAndLayerOfA() {
        Board board = new Board(4).rule(2, 9);
        board.add(Board.HOLE, 1, 3, 1, 7, 8, 0, 0);
        board.add(Board.HOLE, 2, 1, 1, 0, 0, -9, -9);
        due.is("run", board.run(), 1);
        due.is("x", board.checks.place(0, 0), 7);
        due.is("y", board.checks.place(0, 1), 8);
        due.is("layer", board.checks.order(0), 3);
        due.is("near the first corner of a", board.checks.near(7, 8, 7, 8), 1);
        due.is("not near the first of b", board.checks.near(0, 0, 0, 0), 0);
    }

    private static void numbersAre(Board board, int... numbers) {
        due.is("run", board.run(), numbers.length);
        for (int k = 0; k < numbers.length; k++) {
            due.is("a of " + k, board.checks.violation(k, 1), numbers[k]);
        }
    }

    private static void orderByLayer() {
        Board board = new Board(16).rule(1, 100);
        int[] layers = {15, 0, 8, 7, 1, 14, 0};
        for (int layer : layers) {
            board.add(Board.PAD, 1, layer, 1, 1_000_000 - layer, -layer);
        }
        numbersAre(board, 1, 6, 4, 3, 2, 5, 0);
        int[] sorted = {0, 0, 1, 7, 8, 14, 15};
        for (int k = 0; k < sorted.length; k++) {
            due.is("layer of " + k, board.checks.order(k), sorted[k]);
        }
    }

    private static void orderByPlace() {
        Board board = new Board(1).rule(1, 100);
        long[][] places = {{1_000_000, -1_000_000}, {-1_000_000, 1_000_000}, {0, 5}, {0, -5}, {-1, 9}, {1, -9},
            {-1_000_000, 0}, {0, 0}};
        for (long[] place : places) {
            board.add(Board.PAD, 1, 0, 1, place);
        }
        numbersAre(board, 6, 1, 4, 3, 7, 2, 5, 0);
    }

    private static void orderByKindAndShapes() {
        Board board = new Board(1).rule(6, 0).rule(5, 0).rule(1, 100).rule(0, 50);
        board.add(Board.TRACK, 1, 0, 1, 0, 0, 9, 0, 0, 1);
        board.add(Board.TRACK, 2, 0, 1, 0, 0);
        board.add(Board.TRACK, 3, 0, 1, 0, 0);
        due.is("run", board.run(), 10);
        int[][] rows = {{0, 0, 1}, {0, 0, 2}, {0, 1, 2}, {1, 0, NONE}, {1, 1, NONE}, {1, 2, NONE},
            {5, 0, NONE}, {5, 1, NONE}, {5, 2, NONE}, {6, 0, NONE}};
        for (int k = 0; k < rows.length; k++) {
            row(board.checks, k, rows[k][0], rows[k][1], rows[k][2]);
        }
    }

    private static void ofTheLatestRun() {
        Board board = narrowPads(3);
        board.run();
        due.is("from 0", board.checks.violation(0, 1), 0);
        due.is("the last", board.checks.violation(2, 1), 2);
        board.checks.cls(0, 1);
        board.checks.rule(1, 1, 1, 0);
        due.is("as the latest run found it", board.checks.violation(0, 1), 0);
        due.is("run", board.run(), 2);
        due.is("one less now", board.checks.violation(0, 1), 1);
        due.fails("no third one now", OUTSIDE, () -> board.checks.violation(2, 1));
    }

    private static void partsOfAViolation() {
        Board last = new Board(1).rule(0, 9);
        for (int i = 0; i < 58; i++) {
            last.add(Board.SILK, 1, 0, 1, 0, 0);
        }
        last.add(Board.PAD, 1, 0, 1, 0, 0);
        last.add(Board.PAD, 2, 0, 1, 0, 0);
        due.is("the last two of sixty", last.run(), 1);
        row(last.checks, 0, 0, 58, 59);
        last.rule(1, 9).rule(0, 0);
        last.checks.move(59, 900, 0);
        due.is("each for itself", last.run(), 2);
        row(last.checks, 0, 1, 58, NONE);
        row(last.checks, 1, 1, 59, NONE);
    }

    private static void waivedNow() {
        Board board = narrowPads(2);
        board.run();
        due.is("not yet", board.checks.violation(1, 3), 0);
        board.checks.waive(1);
        due.is("now, without a run", board.checks.violation(1, 3), 1);
        due.is("the other is not", board.checks.violation(0, 3), 0);
    }

    private static void noSuchViolation() {
        CleanChecks fresh = new CleanChecks(1);
        due.fails("before a run", OUTSIDE, () -> fresh.violation(0, 0));
        fresh.run(1, 0);
        due.fails("after a run that found none", OUTSIDE, () -> fresh.violation(0, 0));
        Board board = narrowPads(2);
        due.fails("there are some, but no run", OUTSIDE, () -> board.checks.violation(0, 0));
        board.run();
        for (int k : new int[] {-1, 2, 3, 1950, FAR[0], FAR[1]}) {
            for (int what = 0; what < 4; what++) {
                int w = what;
                due.fails("violation " + k + ", " + w, OUTSIDE, () -> board.checks.violation(k, w));
            }
        }
        for (int what : new int[] {-1, 4, 5, FAR[0], FAR[1]}) {
            due.fails("what " + what, OUTSIDE, () -> board.checks.violation(0, what));
            due.fails("neither, what " + what, OUTSIDE, () -> board.checks.violation(2, what));
        }
    }

    private static void placeAsItWasThen() {
        Board board = new Board(1).rule(1, 5);
        board.add(Board.TRACK, 1, 0, 1, 3, 4, 100, 100);
        board.run();
        due.yes("moved", board.checks.move(0, 10, 20));
        due.is("x as it was", board.checks.place(0, 0), 3);
        due.is("y as it was", board.checks.place(0, 1), 4);
        due.no("plain is no run", board.checks.plain());
        due.is("x still", board.checks.place(0, 0), 3);
        board.run();
        due.is("x now", board.checks.place(0, 0), 13);
        due.is("y now", board.checks.place(0, 1), 24);
    }

    private static void axes() {
        long[] values = {-1_000_000, -999_999, -1, 0, 1, 999_999, 1_000_000};
        for (long x : values) {
            Board board = new Board(1).rule(1, 5);
            board.add(Board.PAD, 1, 0, 1, x, -x / 2);
            board.run();
            due.is("axis 0", board.checks.place(0, 0), x);
            due.is("axis 1", board.checks.place(0, 1), -x / 2);
        }
    }

    private static void noSuchPlace() {
        CleanChecks fresh = new CleanChecks(1);
        due.fails("before a run", OUTSIDE, () -> fresh.place(0, 0));
        Board board = narrowPads(2);
        board.run();
        for (int k : new int[] {-1, 2, 3, 1950, FAR[0], FAR[1]}) {
            due.fails("x of " + k, OUTSIDE, () -> board.checks.place(k, 0));
            due.fails("y of " + k, OUTSIDE, () -> board.checks.place(k, 1));
        }
        for (int axis : new int[] {-1, 2, 3, FAR[0], FAR[1]}) {
            due.fails("axis " + axis, OUTSIDE, () -> board.checks.place(0, axis));
        }
    }

    private static void waivedFromNowOn() {
        Board board = narrowPads(2);
        CleanChecks x = board.checks;
        due.is("run", board.run(), 2);
        due.yes("waive(0)", x.waive(0));
        due.is("not counted", board.run(), 1);
        due.is("but found", x.violation(0, 1), 0);
        x.move(0, 50, 0);
        due.is("where it goes", board.run(), 1);
        due.is("it is the last now", x.violation(1, 1), 0);
        due.is("waived there", x.violation(1, 3), 1);
        due.is("the first is the other", x.violation(0, 3), 0);
        board.rule(1, 2);
        due.is("none", board.run(), 0);
        board.rule(1, 9);
        due.is("when it comes again", board.run(), 1);
        x.strips(64);
        x.cls(0, 5);
        due.is("by other strips, of another class", x.run(8, 5), 1);
    }

    private static void waivedAlready() {
        Board board = narrowPads(2);
        board.run();
        due.yes("waive(1)", board.checks.waive(1));
        due.no("waive(1) again", board.checks.waive(1));
        board.run();
        due.no("after a run", board.checks.waive(1));
        board.checks.move(1, -50, 0);
        board.run();
        due.no("by its new number", board.checks.waive(0));
        due.yes("the other", board.checks.waive(1));
        due.is("both", board.run(), 0);
    }

    private static void atMostSixtyWaived() {
        Board board = new Board(1).rule(0, 5);
        for (int i = 0; i < 12; i++) {
            board.add(Board.PAD, i, 0, 1, 0, 0);
        }
        CleanChecks x = board.checks;
        due.is("run", board.run(), 66);
        for (int k = 0; k < 60; k++) {
            due.no("one that is waived took no room: " + k, k > 0 && x.waive(k - 1));
            due.yes("waive " + k, x.waive(k));
        }
        due.no("waive 60", x.waive(60));
        due.no("waive 65", x.waive(65));
        due.no("waive 59 again", x.waive(59));
        due.is("60 is not waived", x.violation(60, 3), 0);
        due.is("59 is", x.violation(59, 3), 1);
        due.is("run again", board.run(), 6);
        due.no("waive 60 after a run", x.waive(60));
        due.fails("waive 66, when 60 are", OUTSIDE, () -> x.waive(66));
    }

    private static void waiveNoneSuch() {
        CleanChecks fresh = new CleanChecks(1);
        due.fails("before a run", OUTSIDE, () -> fresh.waive(0));
        Board board = narrowPads(2);
        due.fails("there are some, but no run", OUTSIDE, () -> board.checks.waive(0));
        board.run();
        for (int k : new int[] {-1, 2, 3, 1950, FAR[0], FAR[1]}) {
            due.fails("waive " + k, OUTSIDE, () -> board.checks.waive(k));
        }
        due.is("none is waived", board.run(), 2);
    }

    private static void waivedByKindAndShapes() {
        Board board = new Board(1).rule(1, 5).rule(5, 0).rule(0, 50);
        board.add(Board.TRACK, 1, 0, 1, 0, 0);
        board.add(Board.PAD, 2, 0, 9, 0, 0);
        board.add(Board.PAD, 3, 0, 9, 0, 0);
        CleanChecks x = board.checks;
        due.is("run", board.run(), 5);
        due.yes("waive 0, 1", x.waive(0));
        due.is("another b", x.violation(1, 3), 0);
        due.is("another a", x.violation(2, 3), 0);
        due.is("another kind", x.violation(3, 3), 0);
        due.yes("waive the width", x.waive(3));
        due.is("the ends of the same shape", x.violation(4, 3), 0);
        due.is("run again", board.run(), 3);
        board.rule(0, 60);
        due.is("by another rule of that kind", board.run(), 3);
    }

    private static void placesInABox() {
        Board board = new Board(2).rule(1, 5).rule(5, 0);
        board.add(Board.TRACK, 1, 0, 1, 10, 20, 500, 500);
        board.add(Board.PAD, 1, 1, 1, -10, -20);
        CleanChecks x = board.checks;
        board.run();
        due.is("all", countFound(x), 3);
        due.is("two on one place", x.near(5, 15, 15, 25), 2);
        due.is("the other layer", x.near(-15, -25, -5, -15), 1);
        due.is("another corner is no place", x.near(400, 400, 600, 600), 0);
        due.is("in x alone", x.near(5, 100, 15, 200), 0);
        due.is("in y alone", x.near(100, 15, 200, 25), 0);
        due.is("nothing there", x.near(0, 0, 1, 1), 0);
        due.is("far off", x.near(ROUND, ROUND, ROUND + 50, ROUND + 50), 0);
        due.is("far off to far off", x.near(-ROUND, -ROUND, ROUND, ROUND), 3);
        x.waive(0);
        due.is("waived ones too", x.near(5, 15, 15, 25), 2);
    }

    private static void borderCounts() {
        Board board = new Board(1).rule(1, 5);
        board.add(Board.PAD, 1, 0, 1, 10, 20);
        board.run();
        CleanChecks x = board.checks;
        due.is("just that place", x.near(10, 20, 10, 20), 1);
        due.is("at the left", x.near(10, 0, 90, 90), 1);
        due.is("one off at the left", x.near(11, 0, 90, 90), 0);
        due.is("at the right", x.near(0, 0, 10, 90), 1);
        due.is("one off at the right", x.near(0, 0, 9, 90), 0);
        due.is("at the foot", x.near(0, 20, 90, 90), 1);
        due.is("one off at the foot", x.near(0, 21, 90, 90), 0);
        due.is("at the head", x.near(0, 0, 90, 20), 1);
        due.is("one off at the head", x.near(0, 0, 90, 19), 0);
        Board corners = new Board(1).rule(1, 5);
        corners.add(Board.PAD, 1, 0, 1, -1_000_000, 1_000_000);
        corners.add(Board.PAD, 1, 0, 1, 1_000_000, -1_000_000);
        corners.run();
        due.is("the plane's own border", corners.checks.near(-1_000_000, -1_000_000, 1_000_000, 1_000_000), 2);
        due.is("and one less", corners.checks.near(-999_999, -999_999, 1_000_000, 1_000_000), 0);
    }

    private static void nearOfTheLatestRun() {
        Board board = narrowPads(1);
        due.is("before a run", countFound(board.checks), 0);
        board.run();
        board.checks.move(0, 100, 0);
        board.add(Board.PAD, 1, 0, 1, 500, 7);
        due.is("where it was", board.checks.near(0, 7, 0, 7), 1);
        due.is("not where it is", board.checks.near(100, 7, 100, 7), 0);
        due.is("not the later one", countFound(board.checks), 1);
        board.run();
        due.is("where it is, after a run", board.checks.near(100, 7, 100, 7), 1);
        due.is("and the later one", countFound(board.checks), 2);
    }

    private static void turnedBox() {
        CleanChecks fresh = new CleanChecks(1);
        due.fails("before a run", ARGUMENT, () -> fresh.near(1, 0, 0, 0));
        CleanChecks x = narrowPads(1).checks;
        x.run(1, 0);
        due.fails("x by one", ARGUMENT, () -> x.near(1, 0, 0, 9));
        due.fails("y by one", ARGUMENT, () -> x.near(0, 8, 9, 7));
        due.fails("both", ARGUMENT, () -> x.near(1, 8, 0, 7));
        due.fails("x far", ARGUMENT, () -> x.near(Long.MAX_VALUE, 0, Long.MIN_VALUE, 9));
        due.fails("y far", ARGUMENT, () -> x.near(0, Long.MAX_VALUE, 9, Long.MIN_VALUE));
        due.fails("x by 2^32", ARGUMENT, () -> x.near(ROUND, 7, 0, 7));
        due.is("not turned: the same twice", x.near(0, 7, 0, 7), 1);
        due.is("not turned: the least and the most", countFound(x), 1);
        due.is("not turned: the least twice", x.near(Long.MIN_VALUE, 0, Long.MIN_VALUE, 9), 0);
    }

    private static void plainWithoutRun() {
        CleanChecks fresh = new CleanChecks(1);
        due.yes("none without a run, none now", fresh.plain());
        Board board = narrowPads(1);
        due.no("none without a run, one now", board.checks.plain());
        due.no("asking is no run", board.checks.plain());
        due.is("of no kind", board.checks.kinds(), 0);
        board.rule(1, 2);
        due.yes("none now", board.checks.plain());
        board.run();
        due.yes("none by the run, none now", board.checks.plain());
    }

    private static void plainByViolations() {
        Board board = narrowPads(2);
        CleanChecks x = board.checks;
        board.run();
        due.yes("after the run", x.plain());
        x.rule(1, 0, 0, 9);
        due.yes("another rule, the same violations", x.plain());
        board.add(Board.PAD, 3, 0, 9, 500, 500);
        due.yes("a shape that breaks nothing", x.plain());
        x.cls(1, 2);
        due.yes("of another class, by the rule of any", x.plain());
        x.rule(1, 2, 0, 2);
        due.no("one less", x.plain());
        x.cls(2, 3);
        x.rule(1, 3, 0, 99);
        due.no("as many, but another one", x.plain());
        x.cls(1, 0);
        due.no("one more", x.plain());
        x.strips(3);
        x.run(2, 5);
        due.yes("after the next run", x.plain());
        x.strips(64);
        due.yes("by other strips", x.plain());
        x.waive(0);
        due.yes("a waived one is there still", x.plain());
        board.run();
        due.yes("and after a run", x.plain());
    }

    private static void plainByPlaces() {
        Board board = new Board(1).rule(1, 5);
        CleanChecks x = board.checks;
        board.add(Board.TRACK, 1, 0, 1, 0, 0, 90, 0);
        board.run();
        x.move(0, 1, 0);
        due.no("another x", x.plain());
        x.move(0, -1, 1);
        due.no("another y", x.plain());
        x.move(0, 0, -1);
        due.yes("back at the old place", x.plain());
        due.no("a move that is refused", x.move(0, 1_000_000, 0));
        due.yes("changes nothing", x.plain());
        Board pair = new Board(1).rule(0, 50);
        pair.add(Board.PAD, 1, 0, 1, 0, 0);
        pair.add(Board.PAD, 2, 0, 1, 5, 0);
        pair.run();
        pair.checks.move(1, 3, 3);
        due.yes("the place is that of a alone", pair.checks.plain());
        pair.checks.move(0, 3, 3);
        due.no("and a is moved", pair.checks.plain());
    }

    private static void kinds() {
        Board board = new Board(1).rule(0, 0).rule(1, 9).rule(2, 9).rule(3, 9).rule(4, 9).rule(5, 0).rule(6, 0);
        CleanChecks x = board.checks;
        due.is("without a run", x.kinds(), 0);
        board.run();
        due.is("no violation", x.kinds(), 0);
        board.add(Board.PAD, 2, 0, 1, 0, 0);
        due.is("no run since", x.kinds(), 0);
        board.run();
        due.is("width", x.kinds(), 1);
        board.add(Board.PAD, 2, 0, 1, 0, 0);
        board.run();
        due.is("two of one kind", x.kinds(), 1);
        board.add(Board.TRACK, 1, 0, 1, 0, 0, 9, 0, 0, 1);
        board.run();
        due.is("clear, ends, acute", x.kinds(), 4);
        board.add(Board.HOLE, 2, 0, 1, 0, 0);
        board.add(Board.HOLE, 2, 0, 1, 0, 0);
        board.add(Board.SILK, 2, 0, 1, 0, 0);
        due.is("as it was", x.kinds(), 4);
        board.run();
        due.is("all", x.kinds(), 7);
        due.is("the last is the one acute corner", x.violation(countFound(x) - 1, 0), 6);
        due.yes("waived", x.waive(countFound(x) - 1));
        due.is("waived ones too", x.kinds(), 7);
        board.run();
        due.is("after a run too", x.kinds(), 7);
    }

    private static void order() {
        Board board = new Board(16).rule(1, 5);
        for (int layer = 15; layer >= 0; layer--) {
            board.add(Board.PAD, 1, layer, 1, 0, 0);
        }
        board.run();
        for (int k = 0; k < 16; k++) {
            due.is("layer of " + k, board.checks.order(k), k);
        }
    }

    private static void orderOfNoneSuch() {
        CleanChecks fresh = new CleanChecks(1);
        due.fails("before a run", OUTSIDE, () -> fresh.order(0));
        Board board = narrowPads(2);
        board.run();
        for (int k : new int[] {-1, 2, 3, 1950, FAR[0], FAR[1]}) {
            due.fails("order " + k, OUTSIDE, () -> board.checks.order(k));
        }
    }

    private static void stripsBefore() {
        CleanChecks x = new CleanChecks(1);
        due.is("8 at first", x.strips(1), 8);
        due.is("1 before", x.strips(64), 1);
        due.is("64 before", x.strips(64), 64);
        due.is("64 again", x.strips(8), 64);
        x.run(8, 5);
        due.is("8 before", x.strips(2), 8);
    }

    private static void eachNumberOfStrips() {
        Board board = narrowPads(3);
        board.add(Board.PAD, 1, 0, 1, -1_000_000, 0);
        board.add(Board.PAD, 1, 0, 1, 1_000_000, 0);
        int before = 8;
        for (int n = 1; n <= 64; n++) {
            due.is("before " + n, board.checks.strips(n), before);
            due.is("by " + n, board.checks.run(1, n), 5);
            due.yes("plain by " + n, board.checks.plain());
            before = n;
        }
    }

    private static void noSuchStrips() {
        CleanChecks x = new CleanChecks(1);
        for (int n : new int[] {0, -1, 65, 66, FAR[0], FAR[1]}) {
            due.fails(n + " strips", ARGUMENT, () -> x.strips(n));
        }
        due.is("8 still", x.strips(3), 8);
        due.fails("0 strips", ARGUMENT, () -> x.strips(0));
        due.is("3 still", x.strips(3), 3);
    }
}
