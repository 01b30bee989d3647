import java.math.BigInteger;

/** The terms that say what each kind of rule finds, and what it lets pass, a test for each sentence. */
public final class ChecksTest {
    private static final int NONE = CleanChecks.NONE;
    private static final Due due = new Due("ChecksTest");

    public static void main(String[] args) {
        apart();
        clear();
        widthHolesSilk();
        ring();
        ends();
        acute();
        open();
        due.end();
    }

    private static void apart() {
        due.sentence("the distance of their LINES less both RADII", ChecksTest::lessBothRadii);
        due.sentence("the pieces between them make its LINE", ChecksTest::piecesMakeTheLine);
        due.sentence("(one corner: that place)", ChecksTest::oneCorner);
        due.sentence("How far two shapes are APART is the distance of their LINES", ChecksTest::crossingLines);
        due.sentence("the distance of their LINES", ChecksTest::distancesFarOut);
        due.sentence("the distance of their LINES less", ChecksTest::wholeDistances);
        due.sentence("How far two shapes are APART", ChecksTest::brokenDistances);
        due.sentence("How far two shapes are APART is the distance", ChecksTest::distancesByWideProducts);
    }

    private static void clear() {
        due.sentence("0 CLEAR: two COPPER shapes", () -> onlyPairs(0, new int[][] {{0, 0}, {0, 1}, {1, 0}, {1, 1}}));
        due.sentence("COPPER are tracks and pads.", ChecksTest::copper);
        due.sentence("two COPPER shapes on one layer", ChecksTest::clearOnOneLayer);
        due.sentence("not of one net", ChecksTest::clearOfOneNet);
        due.sentence("(those without net are of different ones)", ChecksTest::clearWithoutNet);
        due.sentence("are APART by the value at least. 1 WIDTH", ChecksTest::clearByTheValue);
    }

    private static void widthHolesSilk() {
        due.sentence("1 WIDTH: twice the RADIUS of COPPER is the value at least", ChecksTest::width);
        due.sentence("twice the RADIUS of COPPER", ChecksTest::widthOfCopper);
        due.sentence("2 HOLES: two holes", () -> onlyPairs(2, new int[][] {{2, 2}}));
        due.sentence("two holes are APART by the value at least", ChecksTest::holesByTheValue);
        due.sentence("3 SILK: a silk shape and a pad", () -> onlyPairs(3, new int[][] {{1, 3}, {3, 1}}));
        due.sentence("a silk shape and a pad on one layer", ChecksTest::silkOnOneLayer);
        due.sentence("a silk shape and a pad on one layer likewise", ChecksTest::silkByTheValue);
    }

    private static void ring() {
        due.sentence("is not farther than the pad's RADIUS less the hole's and less the value",
                ChecksTest::ringByTheValue);
        due.sentence("the pad's RADIUS less the hole's and less the value", ChecksTest::ringWithoutRoom);
        due.sentence("a pad of its net", ChecksTest::ringOfItsNet);
        due.sentence("a pad of its net (not NONE)", ChecksTest::ringWithoutNet);
        due.sentence("4 RING: a hole has a pad", ChecksTest::ringByAPad);
        due.sentence("from each of its CORNERS", ChecksTest::ringOfEachCorner);
        due.sentence("from each of its CORNERS the pad's LINE", ChecksTest::ringByTheLine);
    }

    private static void ends() {
        due.sentence("5 ENDS (value 0): the first and the last CORNER of a track", ChecksTest::endsOfATrack);
        due.sentence("lie each in COPPER", ChecksTest::endsOnTheBorder);
        due.sentence("in COPPER of its net", ChecksTest::endsOfItsNet);
        due.sentence("in COPPER of its net (not NONE)", ChecksTest::endsWithoutNet);
        due.sentence("on its layer", ChecksTest::endsOnItsLayer);
        due.sentence("which is another shape", ChecksTest::endsInItself);
        due.sentence("it is what is not farther from its LINE than that", ChecksTest::endsOnASlope);
    }

    private static void acute() {
        due.sentence("is the angle between both pieces less than a right one", ChecksTest::angles);
        due.sentence("at no inner CORNER", ChecksTest::innerCorners);
        due.sentence("at no inner CORNER of a track", ChecksTest::acuteOfATrack);
    }

    private static void open() {
        due.sentence("Shapes that are not closed are not looked at.", ChecksTest::notClosed);
        due.sentence("Shapes that are not closed", ChecksTest::notClosedAsOthers);
    }

    private static int found(int kind, long value, Board board) {
        board.rule(kind, value);
        return board.run();
    }

    /** Radii 2 and 3, nets 1 and 2. */
    private static Board pair(int kindA, int kindB, long x, long y) {
        Board board = new Board(2);
        board.add(kindA, 1, 0, 2, 0, 0);
        board.add(kindB, 2, 0, 3, x, y);
        return board;
    }

    private static void onlyPairs(int kind, int[][] pairs) {
        for (int a = 0; a < 4; a++) {
            for (int b = 0; b < 4; b++) {
                int want = 0;
                for (int[] pair : pairs) {
                    want += pair[0] == a && pair[1] == b ? 1 : 0;
                }
                due.is("kinds " + a + ", " + b + ", too close", found(kind, 6, pair(a, b, 6, 8)), want);
                due.is("kinds " + a + ", " + b + ", far enough", found(kind, 5, pair(a, b, 6, 8)), 0);
            }
        }
    }

    private static Board tracks(long[] a, long[] b) {
        Board board = new Board(1);
        board.add(Board.TRACK, 1, 0, 1, a);
        board.add(Board.TRACK, 2, 0, 1, b);
        return board;
    }

    private static void apartBy(String call, long apart, long[] a, long[] b) {
        due.is(call + ", just so far", found(0, apart, tracks(a, b)), 0);
        due.is(call + ", one more", found(0, apart + 1, tracks(a, b)), 1);
        due.is(call + ", turned, just so far", found(0, apart, tracks(b, a)), 0);
        due.is(call + ", turned, one more", found(0, apart + 1, tracks(b, a)), 1);
    }

    private static void lessBothRadii() {
        due.is("touching, 0 apart, by 0", found(0, 0, pair(0, 1, 3, 4)), 0);
        due.is("touching, by 1", found(0, 1, pair(0, 1, 3, 4)), 1);
        due.is("one over the other, by 0", found(0, 0, pair(0, 1, 4, 0)), 1);
        due.is("a little over, by 0", found(0, 0, pair(0, 1, 3, 3)), 1);
        due.is("on one place, by 0", found(0, 0, pair(0, 1, 0, 0)), 1);
        Board widest = new Board(1);
        widest.add(Board.PAD, 1, 0, 100_000, -1_000_000, 0);
        widest.add(Board.PAD, 2, 0, 100_000, -700_000, 0);
        due.is("the widest, 100,000 apart", found(0, 100_000, widest), 0);
        widest.checks.move(1, -1, 0);
        due.is("the widest, one less", widest.run(), 1);
    }

    private static void piecesMakeTheLine() {
        long[] bent = {0, 0, 0, 90, 90, 90};
        apartBy("beside the first piece", 3, bent, new long[] {-5, 40});
        apartBy("beside the last piece", 3, bent, new long[] {40, 95});
        apartBy("ahead of the first corner", 3, bent, new long[] {0, -5});
        apartBy("behind the last corner", 3, bent, new long[] {95, 90});
        apartBy("off a corner", 3, bent, new long[] {-3, 94});
        apartBy("first and last are not joined", 28, bent, new long[] {60, 60});
        apartBy("side by side", 5, new long[] {0, 0, 50, 0}, new long[] {20, 7, 80, 7});
        apartBy("on one straight line", 3, new long[] {0, 0, 5, 0}, new long[] {10, 0, 20, 0});
    }

    private static void oneCorner() {
        apartBy("two places, by x", 6, new long[] {0, 0}, new long[] {8, 0});
        apartBy("two places, by y", 6, new long[] {0, 0}, new long[] {0, 8});
        apartBy("a place far from 0, 0", 6, new long[] {500, 500}, new long[] {500, 508});
        apartBy("a place and a line", 6, new long[] {500, 500}, new long[] {0, 508, 900, 508});
    }

    private static void crossingLines() {
        long[] flat = {-50, 0, 50, 0};
        due.is("crossing", found(0, 0, tracks(flat, new long[] {0, -50, 0, 50})), 1);
        due.is("crossing aslant", found(0, 0, tracks(new long[] {-50, -50, 50, 50}, new long[] {-50, 49, 50, -49})), 1);
        due.is("ending on the other", found(0, 0, tracks(flat, new long[] {0, 0, 0, 50})), 1);
        due.is("ending at the other's end", found(0, 0, tracks(flat, new long[] {50, 0, 50, 50})), 1);
        due.is("one over the other", found(0, 0, tracks(flat, new long[] {10, 0, 90, 0})), 1);
        due.is("one within the other", found(0, 0, tracks(flat, new long[] {10, 0, 20, 0})), 1);
        due.is("the later pieces cross", found(0, 0,
                tracks(new long[] {0, 0, 0, 100, 100, 100}, new long[] {300, 0, 50, 0, 50, 200})), 1);
        due.is("the straight lines would cross, the pieces do not", found(0, 9,
                tracks(new long[] {-50, 0, -20, 0}, new long[] {0, -50, 0, 50})), 0);
        long least = -1_000_000;
        long most = 1_000_000;
        due.is("both diagonals", found(0, 0,
                tracks(new long[] {least, least, most, most}, new long[] {least, most, most, least})), 1);
        due.is("both middles", found(0, 0, tracks(new long[] {least, 0, most, 0}, new long[] {0, least, 0, most})), 1);
    }

    /** Far out, the squares of the products are above what a long holds. */
    private static void distancesFarOut() {
        long[] slope = {-800_000, -600_000, 800_000, 600_000};
        for (long m : new long[] {1, 7, 20_000}) {
            apartBy("slope, off by " + m, 5 * m - 2, slope, new long[] {-3 * m, 4 * m});
        }
        Board wide = new Board(1);
        wide.add(Board.PAD, 1, 0, 100_000, slope);
        wide.add(Board.PAD, 2, 0, 100_000, -180_000, 240_000);
        due.is("widest, just far enough", found(0, 100_000, wide), 0);
        wide.checks.move(1, 1, 0);
        due.is("widest, moved closer", wide.run(), 1);
        long[] diagonal = {-1_000_000, -1_000_000, 1_000_000, 1_000_000};
        due.is("opposite the diagonal", found(0, 100_000, tracks(diagonal, new long[] {-1_000_000, 1_000_000})), 0);
        apartBy("ends far off", 99_998, new long[] {-1_000_000, 0}, new long[] {-900_000, 0, 1_000_000, 1_000_000});
    }

    /** Slopes whose lengths are whole: the distance is exactly the limit, which an inexact product would miss. */
    private static void wholeDistances() {
        long[][] slopes = {{3, 4, 5}, {5, 12, 13}, {20, 21, 29}, {119, 120, 169}, {696, 697, 985},
            {4_059, 4_060, 5_741}};
        for (long[] slope : slopes) {
            for (long times : new long[] {1, 3, 77, 1_000_000 / slope[1]}) {
                for (long off = 1; off * slope[2] <= 100_000; off = off * 3 + 1) {
                    wholeDistance(slope, times, off);
                }
            }
        }
    }

    private static void wholeDistance(long[] slope, long times, long off) {
        if (times * slope[1] > 1_000_000) {
            return;
        }
        long x = slope[0] * times;
        long y = slope[1] * times;
        long footX = times == 1 ? 0 : slope[0];
        long footY = times == 1 ? 0 : slope[1];
        Board board = tracks(new long[] {-x, -y, x, y}, new long[] {footX - slope[1] * off, footY + slope[0] * off});
        String call = slope[2] + " times " + times + ", off by " + off;
        due.is("just far enough, " + call, found(0, slope[2] * off - 2, board), 0);
        due.is("one too close, " + call, found(0, slope[2] * off - 1, board), 1);
    }

    /** Distances that are no whole numbers are rounded neither way. */
    private static void brokenDistances() {
        long[] here = {0, 0};
        due.is("9.899 by 9", found(0, 7, tracks(here, new long[] {7, 7})), 0);
        due.is("9.899 by 10", found(0, 8, tracks(here, new long[] {7, 7})), 1);
        due.is("70.0071 by 70", found(0, 68, tracks(here, new long[] {70, 1})), 0);
        due.is("70.0071 by 71", found(0, 69, tracks(here, new long[] {70, 1})), 1);
        due.is("99,999.00005 by 99,999", found(0, 99_997, tracks(here, new long[] {99_999, 3})), 0);
        due.is("99,999.00005 by 100,000", found(0, 99_998, tracks(here, new long[] {99_999, 3})), 1);
        due.is("2.2 off a slope by 2", found(0, 0, tracks(new long[] {0, 0, 30, 10}, new long[] {14, 7})), 0);
        due.is("2.2 off a slope by 3", found(0, 1, tracks(new long[] {0, 0, 30, 10}, new long[] {14, 7})), 1);
        due.is("1.9 off a slope by 2", found(0, 0, tracks(new long[] {0, 0, 30, 10}, new long[] {15, 7})), 1);
        due.is("4.998 beside an end by 4", found(0, 2, tracks(new long[] {0, 0, -5, 4}, new long[] {3, 4})), 0);
        due.is("4.998 beside an end by 5", found(0, 3, tracks(new long[] {0, 0, -5, 4}, new long[] {3, 4})), 1);
        long[] hair = {-23_660, 23_661};
        due.is("33,460.99999 by 33,460", found(0, 33_458, tracks(new long[] {0, 0, 1, 1}, hair)), 0);
        due.is("33,460.99999 by 33,461", found(0, 33_459, tracks(new long[] {0, 0, 1, 1}, hair)), 1);
        due.is("and off a long piece", found(0, 33_459,
                tracks(new long[] {-900_000, -900_000, 900_001, 900_001}, hair)), 1);
    }

    /** Twice the area between piece and place is just above the root of a multiple of 2^60, where two longs meet. */
    private static void distancesByWideProducts() {
        BigInteger wide = BigInteger.ONE.shiftLeft(60);
        long[] slope = {0, 0, 999_999, 1_000_000};
        for (long times = 1; times <= 60; times++) {
            long area = wide.multiply(BigInteger.valueOf(times)).sqrt().longValue() + 1;
            long x = slope[2] - area % slope[2];
            long y = x + 1 + area / slope[2];
            if (y <= 1_000_000) {
                besideSlope(slope, x, y, area);
            }
        }
    }

    private static void besideSlope(long[] slope, long x, long y, long area) {
        due.is("the area", slope[2] * y - slope[3] * x, area);
        BigInteger length = BigInteger.valueOf(slope[2] * slope[2] + slope[3] * slope[3]);
        long whole = BigInteger.valueOf(area).pow(2).divide(length).sqrt().longValue();
        Board board = tracks(slope, new long[] {x, y});
        due.is("rounded down, " + area, found(0, whole - 2, board), 0);
        due.is("rounded up, " + area, found(0, whole - 1, board), 1);
    }

    private static void copper() {
        for (int kind = 0; kind < 4; kind++) {
            Board board = new Board(1).rule(5, 0);
            board.add(Board.TRACK, 1, 0, 1, 0, 0);
            board.add(kind, 1, 0, 5, 0, 0);
            due.is("an end in kind " + kind, board.run(), kind < 2 ? 0 : 1);
        }
    }

    private static Board twoPads(int netA, int netB, int layerA, int layerB) {
        Board board = new Board(16);
        board.add(Board.PAD, netA, layerA, 2, 0, 0);
        board.add(Board.PAD, netB, layerB, 2, 0, 0);
        return board;
    }

    private static void clearOnOneLayer() {
        for (int a = 0; a < 16; a++) {
            for (int b = 0; b < 16; b++) {
                due.is("layers " + a + ", " + b, found(0, 9, twoPads(1, 2, a, b)), a == b ? 1 : 0);
            }
        }
    }

    private static void clearOfOneNet() {
        due.is("1, 1", found(0, 9, twoPads(1, 1, 0, 0)), 0);
        due.is("0, 0", found(0, 9, twoPads(0, 0, 0, 0)), 0);
        due.is("999, 999", found(0, 9, twoPads(999, 999, 0, 0)), 0);
        due.is("1, 2", found(0, 9, twoPads(1, 2, 0, 0)), 1);
    }

    private static void clearWithoutNet() {
        due.is("both", found(0, 9, twoPads(NONE, NONE, 0, 0)), 1);
        due.is("the first", found(0, 9, twoPads(NONE, 0, 0, 0)), 1);
        due.is("the second", found(0, 9, twoPads(0, NONE, 0, 0)), 1);
    }

    private static void clearByTheValue() {
        for (long value : new long[] {0, 1, 2, 5, 99_999, 100_000}) {
            Board board = pair(0, 1, value + 5, 0);
            due.is("just " + value, found(0, value, board), 0);
            board.checks.move(1, -1, 0);
            due.is("one less than " + value, board.run(), 1);
            board.checks.move(1, 2, 0);
            due.is("one more than " + value, board.run(), 0);
        }
    }

    private static void width() {
        long[][] rows = {{1, 2, 0}, {1, 3, 1}, {1, 1, 0}, {1, 0, 0}, {5, 10, 0}, {5, 11, 1}, {50_000, 100_000, 0},
            {49_999, 100_000, 1}, {49_999, 99_998, 0}, {100_000, 100_000, 0}};
        for (long[] row : rows) {
            Board board = new Board(1);
            board.add(Board.TRACK, 1, 0, row[0], 0, 0);
            due.is("radius " + row[0] + " by " + row[1], found(1, row[1], board), row[2]);
        }
    }

    private static void widthOfCopper() {
        for (int kind = 0; kind < 4; kind++) {
            Board board = new Board(1);
            board.add(kind, NONE, 0, 5, 0, 0);
            due.is("10 of 11, kind " + kind, found(1, 11, board), kind < 2 ? 1 : 0);
        }
    }

    private static void holesByTheValue() {
        for (long value : new long[] {0, 1, 5, 100_000}) {
            Board board = pair(2, 2, 0, value + 5);
            due.is("just " + value, found(2, value, board), 0);
            board.checks.move(1, 0, -1);
            due.is("one less than " + value, board.run(), 1);
        }
        Board board = new Board(2);
        board.add(Board.HOLE, 1, 1, 2, 0, 0);
        board.add(Board.HOLE, 1, 0, 2, 5, 0);
        due.is("of one net, on two layers: no word of either", found(2, 2, board), 1);
        due.is("by 1", found(2, 1, board), 0);
    }

    private static void silkOnOneLayer() {
        Board board = new Board(2);
        board.add(Board.SILK, 1, 0, 2, 0, 0);
        board.add(Board.PAD, 1, 1, 2, 0, 0);
        due.is("on two layers", found(3, 100_000, board), 0);
        board.add(Board.PAD, 1, 0, 2, 0, 0);
        due.is("on one, of one net", board.run(), 1);
        due.is("with the pad of its layer", board.checks.violation(0, 2), 2);
    }

    private static void silkByTheValue() {
        for (long value : new long[] {0, 1, 5, 100_000}) {
            Board board = pair(3, 1, 0, value + 5);
            due.is("just " + value, found(3, value, board), 0);
            board.checks.move(1, 0, -1);
            due.is("one less than " + value, board.run(), 1);
        }
    }

    /** A hole of radius 2 at 0, 0 and a pad of radius 10. */
    private static Board holeAndPad(int holeNet, int padNet, long x, long y) {
        Board board = new Board(2);
        board.add(Board.HOLE, holeNet, 0, 2, 0, 0);
        board.add(Board.PAD, padNet, 0, 10, x, y);
        return board;
    }

    private static void ringByTheValue() {
        due.is("5 off, 3 left", found(4, 3, holeAndPad(1, 1, 3, 4)), 0);
        due.is("5 off, 4 asked", found(4, 4, holeAndPad(1, 1, 3, 4)), 1);
        due.is("8 off, 0 left", found(4, 0, holeAndPad(1, 1, 8, 0)), 0);
        due.is("8 off, 1 asked", found(4, 1, holeAndPad(1, 1, 8, 0)), 1);
        due.is("9 off, 0 asked", found(4, 0, holeAndPad(1, 1, 9, 0)), 1);
        due.is("a little above 8 off", found(4, 0, holeAndPad(1, 1, 8, 1)), 1);
        due.is("0 off, 8 left", found(4, 8, holeAndPad(1, 1, 0, 0)), 0);
        due.is("0 off, 9 asked", found(4, 9, holeAndPad(1, 1, 0, 0)), 1);
    }

    private static void ringWithoutRoom() {
        due.is("value far above the pad", found(4, 100_000, holeAndPad(1, 1, 0, 0)), 1);
        due.is("less than nothing is no distance", found(4, 12, holeAndPad(1, 1, 3, 0)), 1);
        Board wide = new Board(1);
        wide.add(Board.HOLE, 1, 0, 10, 0, 0);
        wide.add(Board.PAD, 1, 0, 10, 0, 0);
        due.is("the hole is as wide as the pad", found(4, 0, wide), 0);
        wide.checks.move(1, 1, 0);
        due.is("and one off", wide.run(), 1);
        Board wider = new Board(1);
        wider.add(Board.HOLE, 1, 0, 13, 0, 0);
        wider.add(Board.PAD, 1, 0, 10, 1, 0);
        due.is("the hole is wider than the pad", found(4, 0, wider), 1);
    }

    private static void ringOfItsNet() {
        due.is("its net", found(4, 0, holeAndPad(1, 1, 0, 0)), 0);
        due.is("another net", found(4, 0, holeAndPad(1, 2, 0, 0)), 1);
        due.is("net 0", found(4, 0, holeAndPad(0, 0, 0, 0)), 0);
        due.is("net 999", found(4, 0, holeAndPad(999, 999, 0, 0)), 0);
    }

    private static void ringWithoutNet() {
        due.is("both without net", found(4, 0, holeAndPad(NONE, NONE, 0, 0)), 1);
        due.is("the hole without net", found(4, 0, holeAndPad(NONE, 0, 0, 0)), 1);
        due.is("the pad without net", found(4, 0, holeAndPad(0, NONE, 0, 0)), 1);
    }

    private static void ringByAPad() {
        Board board = new Board(2);
        board.add(Board.HOLE, 1, 0, 2, 0, 0);
        due.is("no pad", found(4, 0, board), 1);
        board.add(Board.TRACK, 1, 0, 50, 0, 0);
        board.add(Board.HOLE, 2, 0, 50, 0, 0);
        board.checks.cls(2, 5);
        board.add(Board.SILK, 1, 0, 50, 0, 0);
        board.checks.rule(4, 0, 0, 0);
        due.is("tracks, holes and silk are no ring", board.run(), 2);
        board.add(Board.PAD, 1, 0, 50, 90, 90);
        due.is("a pad far off", board.run(), 2);
        board.add(Board.PAD, 1, 0, 4, 0, 0);
        due.is("another pad holds it", board.run(), 1);
        Board ahead = new Board(1);
        ahead.add(Board.PAD, 1, 0, 4, 0, 0);
        ahead.add(Board.HOLE, 1, 0, 2, 0, 0);
        due.is("the pad was told ahead of the hole", found(4, 0, ahead), 0);
        Board layers = new Board(2);
        layers.add(Board.HOLE, 1, 0, 2, 0, 0);
        layers.add(Board.PAD, 1, 1, 4, 0, 0);
        due.is("a pad on another layer: no word of layers", found(4, 0, layers), 0);
    }

    private static void ringOfEachCorner() {
        Board slot = new Board(1);
        slot.add(Board.HOLE, 1, 0, 2, 0, 0, 100, 0);
        slot.add(Board.PAD, 1, 0, 5, 0, 0);
        slot.add(Board.PAD, 1, 0, 5, 100, 0);
        due.is("one pad has to hold every corner", found(4, 1, slot), 1);
        slot.add(Board.PAD, 1, 0, 5, 0, 2, 100, 2);
        due.is("a long pad does", slot.run(), 0);
        due.is("with 2 asked", found(4, 2, slot), 1);
        Board bent = new Board(1);
        bent.add(Board.HOLE, 1, 0, 2, 0, 0, 50, 50, 100, 0);
        bent.add(Board.PAD, 1, 0, 5, 0, 0, 100, 0);
        due.is("an inner corner is not held", found(4, 0, bent), 1);
        Board last = new Board(1);
        last.add(Board.HOLE, 1, 0, 2, 0, 0, 10, 0, 20, 0, 30, 0, 40, 0, 50, 0, 60, 0, 70, 9);
        last.add(Board.PAD, 1, 0, 5, 0, 0, 70, 0);
        due.is("the last of eight is not held", found(4, 0, last), 1);
    }

    private static void ringByTheLine() {
        Board corners = new Board(1);
        corners.add(Board.HOLE, 1, 0, 2,
                500, 500, 510, 500, 520, 500, 530, 500, 540, 500, 550, 500, 560, 500, 570, 500);
        corners.add(Board.PAD, 1, 0, 5, 500, 503, 570, 503);
        due.is("eight corners along a pad, 0 left", found(4, 0, corners), 0);
        due.is("1 asked", found(4, 1, corners), 1);
        Board pieces = new Board(1);
        pieces.add(Board.HOLE, 1, 0, 2, 45, 0, 90, 45);
        pieces.add(Board.PAD, 1, 0, 5, 0, 3, 93, 3, 93, 90);
        due.is("corners at two pieces of a pad", found(4, 0, pieces), 0);
        pieces.checks.move(1, 0, 1);
        due.is("one farther from the first", pieces.run(), 1);
        Board between = new Board(1);
        between.add(Board.HOLE, 1, 0, 2, 0, 0, 50, 50, 100, 0);
        between.add(Board.PAD, 1, 0, 3, 0, 0, 100, 0, 50, 50);
        due.is("the hole's corners are asked of, not its line", found(4, 1, between), 0);
    }

    private static Board trackBetween(int net, int padNet, long firstX, long lastX) {
        Board board = new Board(2);
        board.add(Board.TRACK, net, 0, 1, 0, 0, 50, 50, 100, 0);
        board.add(Board.PAD, padNet, 0, 5, firstX, 0);
        board.add(Board.PAD, padNet, 0, 5, lastX, 0);
        return board;
    }

    private static void endsOfATrack() {
        due.is("both in pads; the inner corner in none", found(5, 0, trackBetween(1, 1, 0, 100)), 0);
        due.is("the first is loose", found(5, 0, trackBetween(1, 1, -60, 100)), 1);
        due.is("the last is loose", found(5, 0, trackBetween(1, 1, 0, 160)), 1);
        due.is("both are loose: once", found(5, 0, trackBetween(1, 1, -60, 160)), 1);
        for (int kind = 1; kind < 4; kind++) {
            Board board = new Board(1);
            board.add(kind, 1, 0, 1, 0, 0, 50, 0);
            due.is("kind " + kind + " has no ends", found(5, 0, board), 0);
        }
        Board single = new Board(1);
        single.add(Board.TRACK, 1, 0, 1, 0, 0);
        due.is("one corner, which is first and last", found(5, 0, single), 1);
        single.add(Board.PAD, 1, 0, 1, 1, 0);
        due.is("in a pad", single.run(), 0);
        Board away = new Board(1);
        away.add(Board.TRACK, 1, 0, 1, 500, 500);
        away.add(Board.PAD, 1, 0, 1, 500, 501);
        due.is("one corner, away from 0, 0", found(5, 0, away), 0);
        Board one = new Board(1);
        one.add(Board.TRACK, 1, 0, 1, 0, 0, 50, 50, 100, 0);
        one.add(Board.PAD, 1, 0, 5, -5, -5, 105, -5);
        due.is("both in one pad", found(5, 0, one), 0);
    }

    private static void endsOnTheBorder() {
        due.is("both on the border", found(5, 0, trackBetween(1, 1, -5, 105)), 0);
        due.is("the first one off", found(5, 0, trackBetween(1, 1, -6, 105)), 1);
        due.is("the last one off", found(5, 0, trackBetween(1, 1, -5, 106)), 1);
        Board touch = new Board(1);
        touch.add(Board.TRACK, 1, 0, 100, 0, 0);
        touch.add(Board.PAD, 1, 0, 5, 6, 0);
        due.is("the track reaches it, its corner does not", found(5, 0, touch), 1);
    }

    private static void endsOfItsNet() {
        due.is("its net", found(5, 0, trackBetween(0, 0, 0, 100)), 0);
        due.is("another net", found(5, 0, trackBetween(1, 2, 0, 100)), 1);
        Board mixed = new Board(1);
        mixed.add(Board.TRACK, 1, 0, 1, 0, 0, 100, 0);
        mixed.add(Board.PAD, 1, 0, 5, 0, 0);
        mixed.add(Board.PAD, 2, 0, 5, 100, 0);
        due.is("one end in another net", found(5, 0, mixed), 1);
    }

    private static void endsWithoutNet() {
        due.is("both without net", found(5, 0, trackBetween(NONE, NONE, 0, 100)), 1);
        due.is("the track without net", found(5, 0, trackBetween(NONE, 0, 0, 100)), 1);
        due.is("the pads without net", found(5, 0, trackBetween(0, NONE, 0, 100)), 1);
    }

    private static void endsOnItsLayer() {
        Board layers = new Board(2);
        layers.add(Board.TRACK, 1, 0, 1, 0, 0);
        layers.add(Board.PAD, 1, 1, 5, 0, 0);
        due.is("on another layer", found(5, 0, layers), 1);
        layers.add(Board.PAD, 1, 0, 5, 0, 0);
        due.is("on its layer", layers.run(), 0);
    }

    private static void endsInItself() {
        Board alone = new Board(1);
        alone.add(Board.TRACK, 1, 0, 1, 0, 0, 10, 0, 10, 10, 0, 0);
        due.is("in itself", found(5, 0, alone), 1);
        alone.add(Board.HOLE, 1, 0, 5, 0, 0);
        alone.add(Board.SILK, 1, 0, 5, 0, 0);
        due.is("hole and silk are no copper", alone.run(), 1);
        alone.add(Board.TRACK, 1, 0, 5, -90, 4, 90, 4);
        due.is("another track will do; its own ends are loose", alone.run(), 1);
        due.is("the later track's", alone.checks.violation(0, 1), 3);
        Board each = new Board(1);
        each.add(Board.TRACK, 1, 0, 1, 0, 0, 10, 0);
        each.add(Board.TRACK, 1, 0, 1, 0, 0, 10, 0);
        due.is("each in the other", found(5, 0, each), 0);
    }

    /** The end lies beside the inside of a piece, exactly so far off as the radius. */
    private static void endsOnASlope() {
        Board board = new Board(1);
        board.add(Board.TRACK, 1, 0, 1, -12, 16);
        board.add(Board.PAD, 1, 0, 20, -800_000, -600_000, 800_000, 600_000);
        due.is("just so far", found(5, 0, board), 0);
        board.checks.move(0, 0, 1);
        due.is("one farther", board.run(), 1);
        board.checks.move(0, 1, -1);
        due.is("one nearer", board.run(), 0);
        Board hair = new Board(1);
        hair.add(Board.TRACK, 1, 0, 1, -57_121, 57_122);
        hair.add(Board.PAD, 1, 0, 80_782, 0, 0, 1, 1);
        due.is("80,782.000004 off by 80,782", found(5, 0, hair), 1);
        Board small = new Board(1);
        small.add(Board.TRACK, 1, 0, 1, -1, 2);
        small.add(Board.PAD, 1, 0, 2, 0, 0, 1, 1);
        due.is("2.12 off by 2", found(5, 0, small), 1);
    }

    private static int acuteOf(int kind, long... corners) {
        Board board = new Board(1);
        board.add(kind, 1, 0, 1, corners);
        return found(6, 0, board);
    }

    private static void angles() {
        due.is("right", acuteOf(0, 0, 0, 10, 0, 10, 10), 0);
        due.is("right, the other way", acuteOf(0, 0, 0, 10, 0, 10, -10), 0);
        due.is("right, turned", acuteOf(0, 0, 0, 3, 4, 7, 1), 0);
        due.is("one less", acuteOf(0, 0, 0, 10, 0, 9, 10), 1);
        due.is("one less, the other way", acuteOf(0, 0, 0, 10, 0, 9, -10), 1);
        due.is("one more", acuteOf(0, 0, 0, 10, 0, 11, 10), 0);
        due.is("just less", acuteOf(0, 0, 0, 1_000_000, 0, 999_999, 1_000_000), 1);
        due.is("just more", acuteOf(0, 0, 0, 999_999, 0, 1_000_000, 1_000_000), 0);
        due.is("straight on", acuteOf(0, 0, 0, 10, 0, 20, 0), 0);
        due.is("back on itself", acuteOf(0, 0, 0, 10, 0, 5, 0), 1);
        due.is("back to where it began", acuteOf(0, 0, 0, 10, 0, 0, 0), 1);
        due.is("the whole width", acuteOf(0, -1_000_000, -1_000_000, 1_000_000, 1_000_000, -1_000_000, -999_999), 1);
        due.is("right, the whole width", acuteOf(0, -1_000_000, 0, 0, 1_000_000, 1_000_000, 0), 0);
    }

    private static void innerCorners() {
        due.is("one corner", acuteOf(0, 0, 0), 0);
        due.is("two corners", acuteOf(0, 0, 0, 10, 0), 0);
        due.is("the first inner one", acuteOf(0, 0, 0, 10, 0, 9, 1, 9, 20), 1);
        due.is("the last inner one", acuteOf(0, 0, 0, 10, 0, 20, 0, 30, 0, 29, 1), 1);
        due.is("the seventh of eight", acuteOf(0, 0, 0, 1, 0, 2, 0, 3, 0, 4, 0, 5, 0, 6, 0, 5, 1), 1);
        due.is("two of them: once", acuteOf(0, 0, 0, 10, 0, 0, 1, 10, 1), 1);
        due.is("first and last are no inner ones", acuteOf(0, 0, 0, 100, 20, 110, 10, 110, -10, 100, -20, 0, 0), 0);
        due.is("a square", acuteOf(0, 0, 0, 10, 0, 10, 10, 0, 10, 0, 0), 0);
    }

    private static void acuteOfATrack() {
        for (int kind = 0; kind < 4; kind++) {
            due.is("kind " + kind, acuteOf(kind, 0, 0, 10, 0, 5, 0), kind == 0 ? 1 : 0);
        }
    }

    private static Board allRules() {
        return new Board(1).rule(0, 10).rule(1, 10).rule(2, 10).rule(3, 10).rule(4, 0).rule(5, 0).rule(6, 0);
    }

    private static void notClosed() {
        Board board = allRules();
        board.open(Board.TRACK, 1, 0, 0, 0, 10, 0, 0, 1);
        board.open(Board.PAD, 2, 0, 0, 0);
        board.open(Board.HOLE, 3, 0, 0, 0);
        board.open(Board.HOLE, 3, 0, 0, 0);
        board.open(Board.SILK, 4, 0, 0, 0);
        for (int kind = 0; kind < 4; kind++) {
            board.open(kind, 5, 0);
        }
        due.is("none is closed", board.run(), 0);
        board.checks.closeShape(2, 1);
        due.is("one hole is: no ring", board.run(), 1);
        due.is("its kind", board.checks.violation(0, 0), 4);
        board.checks.closeShape(3, 1);
        due.is("both holes are: no rings, too close", board.run(), 3);
        board.checks.closeShape(1, 5);
        due.is("a pad of width 10, which has nothing near it", board.run(), 3);
        board.checks.closeShape(4, 5);
        due.is("silk over it", board.run(), 4);
        board.checks.closeShape(0, 5);
        due.is("a track over it, with loose ends, acute", board.run(), 7);
    }

    /** As the pad of a hole, or the copper at an end, one that is not closed is not there. */
    private static void notClosedAsOthers() {
        Board ring = new Board(1).rule(4, 0);
        ring.add(Board.HOLE, 1, 0, 1, 0, 0);
        ring.open(Board.PAD, 1, 0, 0, 0);
        due.is("a hole in a pad that is not closed", ring.run(), 1);
        ring.checks.closeShape(1, 1);
        due.is("and is", ring.run(), 0);
        Board end = new Board(1).rule(5, 0);
        end.add(Board.TRACK, 1, 0, 1, 0, 0);
        end.open(Board.PAD, 1, 0, 0, 0);
        due.is("an end in a pad that is not closed", end.run(), 1);
        end.checks.closeShape(1, 1);
        due.is("and is", end.run(), 0);
        Board lower = new Board(1).rule(0, 9);
        lower.open(Board.PAD, 1, 0, 0, 0);
        lower.add(Board.PAD, 2, 0, 1, 0, 0);
        lower.open(Board.PAD, 3, 0, 0, 0);
        due.is("ahead and behind of one that is closed", lower.run(), 0);
    }
}
