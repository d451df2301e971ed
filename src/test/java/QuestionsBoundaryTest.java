/** The boundary cases of promises 7 to 10. */
public final class QuestionsBoundaryTest extends Sentences {
    public static void main(String[] args) {
        test("7: a turn of whole numbers, however great", QuestionsBoundaryTest::keepsWithGreatNumbers);
        test("7: those of variables that are not there are of no matter", QuestionsBoundaryTest::keepsWithAbsentNumbers);
        test("7: without rules each turn is kept", QuestionsBoundaryTest::keepsWithoutRules);
        test("8: whether the loop has a turn", QuestionsBoundaryTest::hasTurnAtTheTouch);
        test("8: a turn of rational numbers", QuestionsBoundaryTest::hasTurnBetweenWholeNumbers);
        test("8: without rules, and by rules of nothing", QuestionsBoundaryTest::hasTurnWithoutFactors);
        test("9: whether some function ranks the loop", QuestionsBoundaryTest::rankedAtTheLimits);
        test("9: functions may have rational numbers", QuestionsBoundaryTest::rankedByFunctionsOutsideRanks);
        test("9: a loop without a turn, and one without rules", QuestionsBoundaryTest::rankedWithoutTurnOrRules);
        test("10: each -999 .. 999", QuestionsBoundaryTest::ranksWithinLimits);
        test("10: false also when they are not such", QuestionsBoundaryTest::ranksRefuses);
        test("10: absent ones are of no matter, but to that", QuestionsBoundaryTest::ranksWithAbsentNumbers);
        test("10: a loop without a turn", QuestionsBoundaryTest::ranksWithoutTurn);
        finish();
    }

    private static void keepsWithGreatNumbers() {
        for (int i = 0; i < 6; i++) {
            for (int factor = -9; factor <= 9; factor++) {
                CountedFinder x = new CountedFinder();
                x.begin(3);
                int[] rule = with(7, i, factor);
                x.rule(rule);
                // Products that would wrap round in an int.
                for (int value : new int[] {MOST, MOST - 1, LEAST, LEAST + 1, 1 << 30, 1 << 29, -(1 << 30)}) {
                    due(factor + " of " + value, x.keeps(with(6, i, value)), (long) factor * value <= 0);
                }
            }
        }
        CountedFinder x = new CountedFinder();
        x.begin(3);
        x.rule(9, 9, 9, 9, 9, 9, 0);
        due("the greatest sum", x.keeps(MOST, MOST, MOST, MOST, MOST, MOST), false);
        due("the least sum", x.keeps(LEAST, LEAST, LEAST, LEAST, LEAST, LEAST), true);
        due("just 0", x.keeps(MOST, -MOST, MOST, -MOST, MOST, -MOST), true);
        due("just above 0", x.keeps(MOST, -MOST, MOST, -MOST, MOST, -MOST + 1), false);
        x.begin(2);
        x.rule(1, -1, 0, 0, 0, 0, 99);
        due("a difference of 99", x.keeps(MOST, MOST - 99, 0, 0, 0, 0), true);
        due("a difference of 100", x.keeps(MOST, MOST - 100, 0, 0, 0, 0), false);
        due("the greatest difference", x.keeps(MOST, LEAST, 0, 0, 0, 0), false);
        due("the least difference", x.keeps(LEAST, MOST, 0, 0, 0, 0), true);
    }

    private static void keepsWithAbsentNumbers() {
        int[] absent = {MOST, LEAST, 1, -1};
        for (int number : absent) {
            CountedFinder x = new CountedFinder();
            x.rule(1, 9, -9, 1, 9, -9, 4);
            due("of one, kept", x.keeps(2, number, number, 2, number, -1), true);
            due("of one, not kept", x.keeps(2, number, 1, 3, 0, number), false);
            x.begin(2);
            x.rule(1, 1, 9, 1, 1, -9, 4);
            due("of two, kept", x.keeps(1, 1, number, 1, 1, 5), true);
            due("of two, kept", x.keeps(1, 1, -5, 1, 1, number), true);
            due("of two, not kept", x.keeps(1, 1, number, 1, 2, 5), false);
            due("of two, not kept", x.keeps(1, 2, -5, 1, 1, number), false);
            x.begin(3);
            x.rule(0, 0, 1, 0, 0, 0, 0);
            due("of three", x.keeps(0, 0, number, 0, 0, 0), number <= 0);
        }
    }

    private static void keepsWithoutRules() {
        CountedFinder x = new CountedFinder();
        for (int n = 1; n <= 3; n++) {
            x.begin(n);
            due("all", x.keeps(MOST, LEAST, MOST, LEAST, MOST, LEAST), true);
            x.rule(0, 0, 0, 0, 0, 0, 0);
            due("0 is 0 at most", x.keeps(MOST, LEAST, MOST, LEAST, MOST, LEAST), true);
            x.rule(0, 0, 0, 0, 0, 0, -1);
            due("0 is not -1 at most", x.keeps(0, 0, 0, 0, 0, 0), false);
        }
    }

    private static void hasTurnAtTheTouch() {
        // a x is c at most and b x is d at least.
        for (int a = 1; a <= 9; a++) {
            for (int b = 1; b <= 9; b++) {
                for (int c = -9; c <= 9; c += 2) {
                    int edge = Math.floorDiv(c * b, a);
                    for (int d = edge - 1; d <= edge + 2; d++) {
                        if (Math.abs(d) <= 99) {
                            CountedFinder x = new CountedFinder();
                            x.rule(a, 0, 0, 0, 0, 0, c);
                            x.rule(-b, 0, 0, 0, 0, 0, -d);
                            due(d + "/" + b + " .. " + c + "/" + a, x.hasTurn(), d * a <= c * b);
                        }
                    }
                }
            }
        }
        due("99 to 99", isTurnBetween(99, 99), true);
        due("99 to 98", isTurnBetween(99, 98), false);
        due("-99 to -99", isTurnBetween(-99, -99), true);
        due("-98 to -99", isTurnBetween(-98, -99), false);
    }

    /** By a chain of six equal numbers, each of which is 1 rule. */
    private static boolean isTurnBetween(int low, int high) {
        CountedFinder x = new CountedFinder();
        x.begin(3);
        for (int i = 0; i < 5; i++) {
            int[] rule = with(7, i, 1);
            rule[i + 1] = -1;
            x.rule(rule);
        }
        x.rule(0, 0, 0, 0, 0, 1, high);
        x.rule(-1, 0, 0, 0, 0, 0, -low);
        return x.hasTurn();
    }

    private static void hasTurnBetweenWholeNumbers() {
        CountedFinder x = new CountedFinder();
        x.rule(9, 0, 0, 0, 0, 0, 8);
        x.rule(-8, 0, 0, 0, 0, 0, -7);
        due("from 7/8 to 8/9", x.hasTurn(), true);
        x.begin(1);
        x.rule(0, 0, 0, 9, 0, 0, 1);
        x.rule(0, 0, 0, -9, 0, 0, -1);
        due("just 1/9", x.hasTurn(), true);
        x.rule(0, 0, 0, -8, 0, 0, -1);
        due("1/9, but 1/8 at least", x.hasTurn(), false);
    }

    private static void hasTurnWithoutFactors() {
        for (int n = 1; n <= 3; n++) {
            CountedFinder x = new CountedFinder();
            x.begin(n);
            due("no rules", x.hasTurn(), true);
            x.rule(0, 0, 0, 0, 0, 0, 0);
            due("0 is 0 at most", x.hasTurn(), true);
            x.rule(0, 0, 0, 0, 0, 0, 99);
            x.rule(0, 0, n < 3 ? 9 : 0, 0, n < 2 ? 9 : 0, 0, 0);
            due("0 is 99 at most", x.hasTurn(), true);
            x.rule(0, 0, 0, 0, 0, n < 3 ? 9 : 0, -1);
            due("0 is not -1 at most", x.hasTurn(), false);
            x.drop(3);
            due("without that rule", x.hasTurn(), true);
        }
    }

    private static void rankedAtTheLimits() {
        CountedFinder x = new CountedFinder();
        // x halves from 1/9 on: it falls by 1/18. From 0 on it does not.
        x.rule(-1, 0, 0, 2, 0, 0, 0);
        x.rule(-9, 0, 0, 0, 0, 0, -1);
        due("halves from 1/9 on", x.ranked(), true);
        x.drop(1);
        x.rule(-9, 0, 0, 0, 0, 0, 0);
        due("halves from 0 on", x.ranked(), false);
        x.begin(3);
        x.rule(-1, 0, 0, 0, 0, 0, 99);
        x.rule(-9, 9, 0, 9, 0, 0, 0);
        due("falls by x1", x.ranked(), false);
        x.rule(0, -1, 0, 0, 0, 0, 0);
        due("falls by x1, which is 0 or more", x.ranked(), false);
        x.rule(0, -9, 0, 0, 0, 0, -1);
        due("falls by x1, which is 1/9 or more", x.ranked(), true);
        x.drop(0);
        due("and goes down without end", x.ranked(), false);
        x.rule(0, 0, 0, -1, 0, 0, 99);
        due("is bounded behind the turn", x.ranked(), true);
    }

    private static void rankedByFunctionsOutsideRanks() {
        // x0 is 9 x1 at least, x1 is 9 x2, x2 is -99: so s must be 8019 or more, and r0 1 or more.
        CountedFinder x = new CountedFinder();
        x.begin(3);
        x.rule(-1, 9, 0, 0, 0, 0, 0);
        x.rule(0, -1, 9, 0, 0, 0, 0);
        x.rule(0, 0, -1, 0, 0, 0, 99);
        x.rule(-1, 0, 0, 1, 0, 0, -1);
        leastDue(x, 2, -8019, 1, 1, 0, 0, 0, 0, 0);
        due("s is too great for ranks()", x.ranks(1, 0, 0, 999), false);
        due("some function with s of 8019 ranks it", x.ranked(), true);
        // x0 falls by x1 / 9, x1 is x2 / 9 at least, x2 is y1 / 9, y1 is 1/9: so r0 must be 6561 or more.
        x.begin(3);
        x.rule(-1, 0, 0, 0, 0, 0, 0);
        x.rule(-9, 1, 0, 9, 0, 0, 0);
        x.rule(0, -9, 1, 0, 0, 0, 0);
        x.rule(0, 0, -9, 0, 1, 0, 0);
        x.rule(0, 0, 0, 0, -9, 0, -1);
        leastDue(x, 2, 1, 6561, 1, 0, 0, -1, 0, 0);
        due("r0 is too great for ranks()", x.ranks(999, 0, 0, 999), false);
        due("some function with r0 of 6561 ranks it", x.ranked(), true);
    }

    private static void rankedWithoutTurnOrRules() {
        for (int n = 1; n <= 3; n++) {
            CountedFinder x = new CountedFinder();
            x.begin(n);
            due("no rules", x.ranked(), false);
            x.rule(0, 0, 0, 0, 0, 0, 0);
            due("all turns", x.ranked(), false);
            x.rule(0, 0, 0, 0, 0, 0, -1);
            due("no turn", x.ranked(), true);
            x.begin(n);
            x.rule(1, 0, 0, -1, 0, 0, 0);
            x.rule(-1, 0, 0, 1, 0, 0, 0);
            due("each value stays", x.ranked(), false);
            x.drop(1);
            x.rule(-1, 0, 0, 1, 0, 0, -1);
            due("no turn, by two rules", x.ranked(), true);
        }
    }

    private static void ranksWithinLimits() {
        CountedFinder x = new CountedFinder();
        x.begin(3);
        // Each variable is 0 or more and falls by 1 or more.
        for (int v = 0; v < 3; v++) {
            x.rule(with(7, v, -1));
            int[] fall = with(7, v, -1);
            fall[3 + v] = 1;
            fall[6] = -1;
            x.rule(fall);
        }
        for (int i = 0; i < 4; i++) {
            int[] function = {1, 1, 1, 1};
            for (int number : new int[] {998, 999, 1000, 1001}) {
                function[i] = number;
                due("number " + i + " " + number, x.ranks(function), number <= 999);
            }
        }
        due("all at their limits", x.ranks(999, 999, 999, 999), true);
        for (int sign = -1; sign <= 1; sign += 2) {
            // x0 is sign 999 at least; s of -sign 999 makes just 0 of it.
            x = with999(sign);
            leastDue(x, 2, sign * 999, 1, 1, 0, 0, 0, 0, 0);
            due("just 0", x.ranks(1, 0, 0, -sign * 999), true);
            due("below 0", x.ranks(1, 0, 0, -sign * 999 - 1), false);
            due("above 0, if such", x.ranks(1, 0, 0, -sign * 999 + 1), sign > 0);
        }
        CountedFinder down = new CountedFinder();
        down.rule(1, 0, 0, 0, 0, 0, 0);
        down.rule(9, 0, 0, -9, 0, 0, -9);
        due("-999", down.ranks(-999, 0, 0, 0), true);
        due("-1000", down.ranks(-1000, 0, 0, 0), false);
    }

    /** x2 is sign 99 at least, x1 is x2 + sign 12, x0 is 9 x1 and falls by 1. */
    private static CountedFinder with999(int sign) {
        CountedFinder x = new CountedFinder();
        x.begin(3);
        x.rule(0, 0, -1, 0, 0, 0, -99 * sign);
        x.rule(0, -1, 1, 0, 0, 0, -12 * sign);
        x.rule(-1, 9, 0, 0, 0, 0, 0);
        x.rule(-1, 0, 0, 1, 0, 0, -1);
        return x;
    }

    private static void ranksRefuses() {
        for (State state : State.values()) {
            for (int i = 0; i < 4; i++) {
                int at = i;
                for (int number : outside(999)) {
                    refused(state, "number " + i + " " + number, x -> !x.ranks(with(4, at, number)));
                }
            }
        }
        // Every function ranks a loop without a turn, so the limit alone makes these false.
        for (int n = 1; n <= 3; n++) {
            CountedFinder x = new CountedFinder();
            x.begin(n);
            x.rule(0, 0, 0, 0, 0, 0, -1);
            for (int i = 0; i < 4; i++) {
                due("999 is such", x.ranks(with(4, i, 999)), true);
                due("-999 is such", x.ranks(with(4, i, -999)), true);
                for (int number : outside(999)) {
                    due(number + " is not such", x.ranks(with(4, i, number)), false);
                }
            }
        }
    }

    private static void ranksWithAbsentNumbers() {
        for (int n = 1; n <= 3; n++) {
            CountedFinder x = new CountedFinder();
            x.begin(n);
            x.rule(-1, 0, 0, 0, 0, 0, 0);
            x.rule(-1, 0, 0, 1, 0, 0, -1);
            for (int v = 1; v < 3; v++) {
                for (int number : new int[] {1, -1, 999, -999}) {
                    int[] function = {1, 0, 0, 0};
                    function[v] = number;
                    due(n + " variables, r" + v + " " + number, x.ranks(function), v >= n);
                    function[v] = number > 0 ? 1000 : -1000;
                    due(n + " variables, r" + v + " not such", x.ranks(function), false);
                }
            }
        }
    }

    private static void ranksWithoutTurn() {
        CountedFinder x = State.TWO_WITHOUT_A_TURN.made();
        due("of nothing", x.ranks(0, 0, 0, 0), true);
        due("below 0", x.ranks(0, 0, 0, -999), true);
        due("of everything", x.ranks(-999, 999, 0, -999), true);
        x.drop(1);
        due("with turns", x.ranks(0, 0, 0, 0), false);
        due("with turns", x.ranks(-999, -999, 0, 999), false);
    }
}
