/** Promises 5 and 6: rule and cls, and which rule holds. */
public final class RulesTest {
    private static final Class<IndexOutOfBoundsException> OUTSIDE = IndexOutOfBoundsException.class;
    private static final Class<IllegalArgumentException> ARGUMENT = IllegalArgumentException.class;
    private static final int ANY = CleanChecks.NONE;
    private static final Due due = new Due("RulesTest");

    public static void main(String[] args) {
        rule();
        atMostThirtyRules();
        cls();
        lastOfThePairHolds();
        eitherWayRound();
        bothClassesAreLookedAt();
        oneShapeByTheFirstClass();
        kindsAreApart();
        due.end();
    }

    private static void rule() {
        CleanChecks x = new CleanChecks(1);
        for (int kind = 0; kind <= 6; kind++) {
            int k = kind;
            long most = kind < 5 ? 100_000 : 0;
            due.is("least value " + k, x.rule(k, ANY, 7, 0), 2 * k);
            due.is("most value " + k, x.rule(k, 7, ANY, most), 2 * k + 1);
            due.fails("value -1 of " + k, ARGUMENT, () -> x.rule(k, 0, 0, -1));
            due.fails("value above of " + k, ARGUMENT, () -> x.rule(k, 0, 0, most + 1));
            due.fails("value far off of " + k, ARGUMENT, () -> x.rule(k, 0, 0, Long.MAX_VALUE));
        }
        due.fails("kind -1", ARGUMENT, () -> x.rule(-1, 0, 0, 0));
        due.fails("kind 7", ARGUMENT, () -> x.rule(7, 0, 0, 0));
        due.fails("class A -2", ARGUMENT, () -> x.rule(0, -2, 0, 0));
        due.fails("class A 8", ARGUMENT, () -> x.rule(0, 8, 0, 0));
        due.fails("class B -2", ARGUMENT, () -> x.rule(1, 0, -2, 0));
        due.fails("class B 8", ARGUMENT, () -> x.rule(1, 0, 8, 0));
        due.is("numbers go on", x.rule(0, 0, 0, 0), 14);
    }

    private static void atMostThirtyRules() {
        CleanChecks x = new CleanChecks(1);
        for (int i = 0; i < 30; i++) {
            due.is("rule " + i, x.rule(i % 5, i % 8, ANY, i), i);
        }
        due.is("rule 30", x.rule(0, 0, 0, 0), CleanChecks.NONE);
        due.fails("wrong when full", ARGUMENT, () -> x.rule(7, 0, 0, 0));
    }

    private static void refusedRuleDoesNotHold() {
        Board board = new Board(1);
        for (int i = 0; i < 30; i++) {
            board.rule(1, 4);
        }
        board.rule(1, 100);
        board.add(Board.PAD, 1, 0, 2, 0, 0);
        due.is("rule 30 is not held", board.run(), 0);
    }

    private static void cls() {
        refusedRuleDoesNotHold();
        CleanChecks x = new CleanChecks(1);
        due.fails("no shape yet", OUTSIDE, () -> x.cls(0, 8));
        x.shape(0, 0, 0);
        due.no("class 0 at first", x.cls(0, 0));
        due.yes("class 7", x.cls(0, 7));
        due.no("class 7 again", x.cls(0, 7));
        due.fails("class 8", ARGUMENT, () -> x.cls(0, 8));
        due.fails("class NONE", ARGUMENT, () -> x.cls(0, ANY));
        due.no("still class 7", x.cls(0, 7));
        due.fails("shape -1", OUTSIDE, () -> x.cls(-1, 0));
        due.fails("shape 1", OUTSIDE, () -> x.cls(1, 9));
        x.corner(0, 0, 0);
        x.closeShape(0, 1);
        due.yes("a closed one too", x.cls(0, 1));
    }

    /** Two pads that are 10 apart. */
    private static Board twoPads(int classA, int classB) {
        Board board = new Board(1);
        board.add(Board.PAD, 1, 0, 5, 0, 0);
        board.add(Board.PAD, 2, 0, 5, 20, 0);
        board.checks.cls(0, classA);
        board.checks.cls(1, classB);
        return board;
    }

    private static void lastOfThePairHolds() {
        Board board = twoPads(0, 0);
        due.is("no rule", board.run(), 0);
        board.rule(0, 11);
        due.is("11 of 10", board.run(), 1);
        board.rule(0, 10);
        due.is("10 told last", board.run(), 0);
        board.checks.rule(0, 0, 0, 12);
        due.is("of the class, told last", board.run(), 1);
        board.rule(0, 1);
        due.is("any class, told last", board.run(), 0);
        board.checks.rule(0, 1, 0, 99);
        due.is("of another class", board.run(), 0);
        board.checks.cls(1, 1);
        due.is("now of that class", board.run(), 1);
    }

    private static void eitherWayRound() {
        due.is("2, 5", withRule(twoPads(2, 5), 2, 5), 1);
        due.is("5, 2", withRule(twoPads(2, 5), 5, 2), 1);
        due.is("2, any", withRule(twoPads(2, 5), 2, ANY), 1);
        due.is("any, 2", withRule(twoPads(2, 5), ANY, 2), 1);
        due.is("5, any", withRule(twoPads(2, 5), 5, ANY), 1);
        due.is("any, 5", withRule(twoPads(2, 5), ANY, 5), 1);
    }

    private static void bothClassesAreLookedAt() {
        due.is("2, 2", withRule(twoPads(2, 5), 2, 2), 0);
        due.is("5, 5", withRule(twoPads(2, 5), 5, 5), 0);
        due.is("2, 3", withRule(twoPads(2, 5), 2, 3), 0);
        due.is("3, any", withRule(twoPads(2, 5), 3, ANY), 0);
        due.is("2, 5 of 2, 2", withRule(twoPads(2, 2), 2, 5), 0);
    }

    private static int withRule(Board board, int classA, int classB) {
        board.checks.rule(0, classA, classB, 11);
        return board.run();
    }

    private static void oneShapeByTheFirstClass() {
        Board board = new Board(1);
        board.add(Board.PAD, 1, 0, 5, 0, 0);
        board.checks.cls(0, 3);
        board.checks.rule(1, 2, 3, 11);
        due.is("the second class is not looked at", board.run(), 0);
        board.checks.rule(1, 3, 6, 11);
        due.is("the first class is", board.run(), 1);
        board.checks.rule(1, ANY, 6, 10);
        due.is("any class, told last", board.run(), 0);
        board.checks.rule(1, 6, 3, 99);
        due.is("not either way round", board.run(), 0);
    }

    private static void kindsAreApart() {
        Board board = twoPads(0, 0);
        board.rule(0, 11).rule(2, 0).rule(3, 0);
        due.is("rules of other kinds, told later", board.run(), 1);
    }
}
