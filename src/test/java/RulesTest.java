/** Promise 5 (rule), and the terms that say which rule holds, a test for each sentence. */
public final class RulesTest {
    private static final Class<IllegalArgumentException> ARGUMENT = IllegalArgumentException.class;
    private static final int ANY = CleanChecks.NONE;
    /** 0 once it is cut down to an int. */
    private static final long ROUND = 1L << 32;
    private static final Due due = new Due("RulesTest");

    public static void main(String[] args) {
        rule();
        whichHolds();
        due.end();
    }

    private static void rule() {
        due.sentence("A new RULE: its number", RulesTest::numbers);
        due.sentence("NONE when there are 30", RulesTest::noneWhenThereAreThirty);
        due.sentence("RULES, at most 30", RulesTest::refusedByThirtyDoesNotHold);
        due.sentence("IllegalArgumentException, when kind is not 0 .. 6", RulesTest::noKind);
        due.sentence("a class not NONE .. 7", RulesTest::noClass);
        due.sentence("v not 0 .. 100,000", RulesTest::values);
        due.sentence("(0 for ENDS and ACUTE)", RulesTest::valuesOfEndsAndAcute);
        due.sentence("5 ENDS (value 0)", () -> refusedDoesNotHold(5));
        due.sentence("6 ACUTE (value 0)", () -> refusedDoesNotHold(6));
    }

    private static void whichHolds() {
        due.sentence("two classes (NONE: any)", RulesTest::anyClass);
        due.sentence("that one holds which was told last", RulesTest::lastHolds);
        due.sentence("of those of that kind", RulesTest::ofThatKind);
        due.sentence("whose classes are theirs", RulesTest::classesAreTheirs);
        due.sentence("either way round", RulesTest::eitherWayRound);
        due.sentence("of one shape: the first class", RulesTest::firstClass);
        due.sentence("the second one is not looked at", RulesTest::secondClass);
    }

    private static void numbers() {
        CleanChecks x = new CleanChecks(1);
        for (int kind = 0; kind <= 6; kind++) {
            due.is("kind " + kind, x.rule(kind, ANY, 7, 0), 2 * kind);
            due.is("kind " + kind + " again", x.rule(kind, ANY, 7, 0), 2 * kind + 1);
        }
    }

    private static void noneWhenThereAreThirty() {
        CleanChecks x = new CleanChecks(1);
        for (int i = 0; i < 30; i++) {
            due.is("rule " + i, x.rule(i % 7, i % 8, ANY, 0), i);
        }
        due.is("one more", x.rule(0, 0, 0, 0), CleanChecks.NONE);
        due.is("and one more", x.rule(6, ANY, ANY, 0), CleanChecks.NONE);
        due.fails("no kind, when there are 30", ARGUMENT, () -> x.rule(7, 0, 0, 0));
        due.fails("no class, when there are 30", ARGUMENT, () -> x.rule(0, 8, 0, 0));
        due.fails("no value, when there are 30", ARGUMENT, () -> x.rule(0, 0, 0, -1));
    }

    private static void refusedByThirtyDoesNotHold() {
        Board board = new Board(1);
        board.add(Board.PAD, 1, 0, 2, 0, 0);
        for (int i = 0; i < 29; i++) {
            board.rule(1, 4);
        }
        due.is("29 rules", board.run(), 0);
        board.rule(1, 5);
        due.is("the thirtieth holds", board.run(), 1);
        board.rule(1, 4);
        due.is("one more does not", board.run(), 1);
    }

    private static void noKind() {
        CleanChecks x = new CleanChecks(1);
        for (int kind : new int[] {-1, 7, 8, Integer.MIN_VALUE, Integer.MAX_VALUE}) {
            due.fails("kind " + kind, ARGUMENT, () -> x.rule(kind, 0, 0, 0));
        }
        due.is("none was made", x.rule(0, 0, 0, 0), 0);
        due.is("kind 6", x.rule(6, 0, 0, 0), 1);
    }

    private static void noClass() {
        for (int kind = 0; kind <= 6; kind++) {
            CleanChecks x = new CleanChecks(1);
            int k = kind;
            for (int c : new int[] {-2, -3, 8, 9, Integer.MIN_VALUE, Integer.MAX_VALUE}) {
                due.fails("first class " + c + " of " + k, ARGUMENT, () -> x.rule(k, c, 0, 0));
                due.fails("second class " + c + " of " + k, ARGUMENT, () -> x.rule(k, 0, c, 0));
            }
            for (int c = ANY; c <= 7; c++) {
                due.is("classes " + c + " of " + k, x.rule(k, c, 7, 0), 2 * (c + 1));
                due.is("classes 7, " + c + " of " + k, x.rule(k, 7, c, 0), 2 * (c + 1) + 1);
            }
        }
    }

    private static void values() {
        for (int kind = 0; kind <= 4; kind++) {
            CleanChecks x = new CleanChecks(1);
            int k = kind;
            for (long v : new long[] {-1, 100_001, ROUND, -ROUND, Long.MIN_VALUE, Long.MAX_VALUE}) {
                due.fails("value " + v + " of " + k, ARGUMENT, () -> x.rule(k, 0, 0, v));
            }
            due.is("value 0 of " + k, x.rule(k, 0, 0, 0), 0);
            due.is("value 1 of " + k, x.rule(k, 0, 0, 1), 1);
            due.is("value 100,000 of " + k, x.rule(k, 0, 0, 100_000), 2);
        }
    }

    private static void valuesOfEndsAndAcute() {
        for (int kind = 5; kind <= 6; kind++) {
            CleanChecks x = new CleanChecks(1);
            int k = kind;
            for (long v : new long[] {1, -1, 100_000, 100_001, ROUND, Long.MIN_VALUE, Long.MAX_VALUE}) {
                due.fails("value " + v + " of " + k, ARGUMENT, () -> x.rule(k, 0, 0, v));
            }
            due.is("value 0 of " + k, x.rule(k, 0, 0, 0), 0);
        }
    }

    /** A track with loose ends and an acute corner. */
    private static void refusedDoesNotHold(int kind) {
        Board board = new Board(1);
        board.add(Board.TRACK, 1, 0, 1, 0, 0, 9, 0, 0, 1);
        due.fails("value 1 of " + kind, ARGUMENT, () -> board.rule(kind, 1));
        due.is("it does not hold", board.run(), 0);
        board.rule(kind, 0);
        due.is("value 0 does", board.run(), 1);
    }

    /** Two pads that are 10 apart. */
    private static Board twoPads(int classA, int classB) {
        Board board = new Board(1);
        board.add(Board.PAD, 1, 0, 5, 0, 0);
        board.add(Board.PAD, 2, 0, 5, 20, 0);
        board.checks.cls(0, classA);
        board.checks.cls(1, classB);
        return board;
    }

    private static int byRule(Board board, int classA, int classB) {
        board.checks.rule(0, classA, classB, 11);
        return board.run();
    }

    private static void anyClass() {
        for (int c = 0; c <= 7; c++) {
            due.is("any two, of " + c + " and 7", byRule(twoPads(c, 7), ANY, ANY), 1);
            due.is("any and 7, of " + c + " and 7", byRule(twoPads(c, 7), ANY, 7), 1);
            due.is("7 and any, of " + c + " and 7", byRule(twoPads(c, 7), 7, ANY), 1);
            due.is("any and 3, of " + c + " and 7", byRule(twoPads(c, 7), ANY, 3), c == 3 ? 1 : 0);
            due.is("3 and any, of " + c + " and 7", byRule(twoPads(c, 7), 3, ANY), c == 3 ? 1 : 0);
            Board one = new Board(1);
            one.add(Board.PAD, 1, 0, 1, 0, 0);
            one.checks.cls(0, c);
            one.checks.rule(1, ANY, 3, 3);
            due.is("any one, of " + c, one.run(), 1);
        }
    }

    private static void lastHolds() {
        Board board = twoPads(0, 0);
        due.is("no rule", board.run(), 0);
        due.is("11 of 10", byRule(board, ANY, ANY), 1);
        board.rule(0, 10);
        due.is("10, told last", board.run(), 0);
        due.is("11 of the class, told last", byRule(board, 0, 0), 1);
        board.rule(0, 0);
        due.is("0 of any class, told last", board.run(), 0);
        board.checks.rule(0, 1, 0, 99);
        due.is("of another class, told last", board.run(), 0);
        board.checks.cls(1, 1);
        due.is("now they are of that class", board.run(), 1);
        board.checks.cls(1, 2);
        due.is("and now they are not", board.run(), 0);
    }

    /** Breaks each kind of rule by the value 9, and those that have a value by 0 no more. */
    private static Board breakingByNine() {
        Board board = new Board(1);
        board.add(Board.TRACK, 1, 0, 1, 900, 0, 909, 0, 900, 1);
        board.add(Board.PAD, 2, 0, 5, 0, 0);
        board.add(Board.PAD, 3, 0, 5, 14, 0);
        board.add(Board.HOLE, 2, 0, 1, 0, 0);
        board.add(Board.HOLE, 3, 0, 1, 10, 0);
        board.add(Board.SILK, 4, 0, 1, 0, 11);
        return board;
    }

    private static int found(Board board, int kind) {
        int all = board.run();
        int found = 0;
        for (int k = 0; k < all; k++) {
            found += board.checks.violation(k, 0) == kind ? 1 : 0;
        }
        return found;
    }

    private static void ofThatKind() {
        for (int kind = 0; kind <= 6; kind++) {
            Board board = breakingByNine().rule(kind, kind < 5 ? 9 : 0);
            int before = found(board, kind);
            due.yes("there are some of " + kind, before > 0);
            due.is("and of no other", board.checks.kinds(), 1);
            for (int other = 0; other <= 6; other++) {
                if (other != kind) {
                    board.rule(other, 0);
                }
            }
            due.is("the rule of " + kind + " holds still", found(board, kind), before);
            due.is("and the others by 0", board.checks.kinds(), kind < 5 ? 3 : 2);
        }
    }

    private static void classesAreTheirs() {
        due.is("2, 2 of 2, 5", byRule(twoPads(2, 5), 2, 2), 0);
        due.is("5, 5 of 2, 5", byRule(twoPads(2, 5), 5, 5), 0);
        due.is("2, 3 of 2, 5", byRule(twoPads(2, 5), 2, 3), 0);
        due.is("3, 5 of 2, 5", byRule(twoPads(2, 5), 3, 5), 0);
        due.is("2, 5 of 2, 2", byRule(twoPads(2, 2), 2, 5), 0);
        due.is("2, 5 of 5, 5", byRule(twoPads(5, 5), 2, 5), 0);
        due.is("2, 2 of 2, 2", byRule(twoPads(2, 2), 2, 2), 1);
        due.is("0, 7 of 0, 7", byRule(twoPads(0, 7), 0, 7), 1);
    }

    private static void eitherWayRound() {
        due.is("2, 5 of 2, 5", byRule(twoPads(2, 5), 2, 5), 1);
        due.is("5, 2 of 2, 5", byRule(twoPads(2, 5), 5, 2), 1);
        due.is("2, 5 of 5, 2", byRule(twoPads(5, 2), 2, 5), 1);
        for (int kind : new int[] {2, 3}) {
            for (int turn = 0; turn < 2; turn++) {
                Board board = new Board(1);
                board.add(kind == 2 ? Board.HOLE : Board.SILK, 1, 0, 1, 0, 0);
                board.add(kind == 2 ? Board.HOLE : Board.PAD, 2, 0, 1, 0, 0);
                board.checks.cls(turn, 6);
                board.checks.rule(kind, 0, 6, 1);
                due.is("0, 6 of kind " + kind + ", turned " + turn, board.run(), 1);
            }
        }
    }

    /** A shape that breaks each of the rules that ask of one shape: 1, 4, 5, 6. */
    private static Board breaking(int kind, int c) {
        Board board = new Board(1);
        board.add(kind == 4 ? Board.HOLE : Board.TRACK, 1, 0, 1, 0, 0, 9, 0, 0, 1);
        board.checks.cls(0, c);
        return board;
    }

    private static int byRuleOfOne(int kind, int c, int classA, int classB) {
        Board board = breaking(kind, c);
        board.checks.rule(kind, classA, classB, kind < 5 ? 9 : 0);
        return board.run();
    }

    private static void firstClass() {
        for (int kind : new int[] {1, 4, 5, 6}) {
            due.is("3 of 3, kind " + kind, byRuleOfOne(kind, 3, 3, 3), 1);
            due.is("any of 3, kind " + kind, byRuleOfOne(kind, 3, ANY, 3), 1);
            due.is("2 of 3, kind " + kind, byRuleOfOne(kind, 3, 2, 2), 0);
            due.is("0 of 3, kind " + kind, byRuleOfOne(kind, 3, 0, 0), 0);
        }
        Board board = breaking(1, 3);
        board.checks.rule(1, 3, 0, 3);
        due.is("of the class", board.run(), 1);
        board.checks.rule(1, ANY, 0, 2);
        due.is("of any, told last", board.run(), 0);
        board.checks.rule(1, 4, 0, 99);
        due.is("of another, told last", board.run(), 0);
    }

    private static void secondClass() {
        for (int kind : new int[] {1, 4, 5, 6}) {
            due.is("3, 6 of 3, kind " + kind, byRuleOfOne(kind, 3, 3, 6), 1);
            due.is("3, any of 3, kind " + kind, byRuleOfOne(kind, 3, 3, ANY), 1);
            due.is("6, 3 of 3, kind " + kind, byRuleOfOne(kind, 3, 6, 3), 0);
            due.is("6, any of 3, kind " + kind, byRuleOfOne(kind, 3, 6, ANY), 0);
        }
    }
}
