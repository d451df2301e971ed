import java.math.BigInteger;

/** The boundary cases of promises 11 to 13. */
public final class LeastBoundaryTest extends Sentences {
    public static void main(String[] args) {
        test("11: 0 when it has none", LeastBoundaryTest::leastWithoutTurn);
        test("11: 1 when there is no least", LeastBoundaryTest::leastAtTheEdgeOfNone);
        test("11: 2 when there is", LeastBoundaryTest::leastAtItsLimits);
        test("11: numbers of absent variables are of no matter", LeastBoundaryTest::leastWithAbsentNumbers);
        test("11: NONE when a number is not -99 .. 99", LeastBoundaryTest::leastRefuses);
        test("11: and what was looked for before stays", LeastBoundaryTest::leastRefusedLeavesWhatWasFound);
        test("12, 13: in lowest terms, the denominator above 0", LeastBoundaryTest::lowestTerms);
        test("12, 13: beyond an int", LeastBoundaryTest::topBeyondInt);
        test("12, 13: by the latest least() that answered 0, 1 or 2", LeastBoundaryTest::latestLeastTells);
        test("12, 13: other calls leave them", LeastBoundaryTest::otherCallsLeaveTopAndBottom);
        test("12, 13: 0 when there was none such", LeastBoundaryTest::topBeforeAnyLeast);
        finish();
    }

    private static void leastWithoutTurn() {
        for (int n = 1; n <= 3; n++) {
            CountedFinder x = new CountedFinder();
            x.begin(n);
            x.rule(1, 0, 0, 0, 0, 0, 0);
            x.rule(-1, 0, 0, 0, 0, 0, 0);
            leastDue(x, 2, 0, 1, 1, 0, 0, 0, 0, 0);
            x.drop(1);
            x.rule(-9, 0, 0, 0, 0, 0, -1);
            leastDue(x, 0, 0, 0, 1, 0, 0, 0, 0, 0);
            leastDue(x, 0, 0, 0, 0, 0, 0, 1, 0, 0);
            leastDue(x, 0, 0, 0, 99, -99, 99, -99, 99, -99);
            leastDue(x, 0, 0, 0, NO_FACTORS);
        }
    }

    private static void leastAtTheEdgeOfNone() {
        CountedFinder x = new CountedFinder();
        x.begin(2);
        // x0 and y1 - 3 x0 are 0 or more: p x0 + q y1 has a least while q and p + 3 q are 0 or more.
        x.rule(-1, 0, 0, 0, 0, 0, 0);
        x.rule(3, 0, 0, 0, -1, 0, 0);
        for (int q : new int[] {-1, 0, 1, 2, 33}) {
            for (int p = -3 * q - 1; p <= -3 * q + 1; p++) {
                if (Math.abs(p) <= 99) {
                    boolean has = q >= 0 && p + 3 * q >= 0;
                    leastDue(x, has ? 2 : 1, 0, has ? 1 : 0, p, 0, 0, 0, q, 0);
                }
            }
        }
        leastDue(x, 1, 0, 0, 0, 1, 0, 0, 0, 0);
        leastDue(x, 1, 0, 0, 0, 0, 0, 1, 0, 0);
        for (int n = 1; n <= 3; n++) {
            x.begin(n);
            leastDue(x, 2, 0, 1, NO_FACTORS);
            leastDue(x, 1, 0, 0, 1, 0, 0, 0, 0, 0);
            leastDue(x, 1, 0, 0, 0, 0, 0, -1, 0, 0);
        }
    }

    private static void leastAtItsLimits() {
        for (int c : new int[] {-99, -98, -1, 0, 1, 98, 99}) {
            for (int b = 1; b <= 9; b++) {
                CountedFinder x = new CountedFinder();
                x.rule(0, 0, 0, -b, 0, 0, -c);
                for (int q : new int[] {-99, -1, 0, 1, 2, 9, 98, 99}) {
                    long factor = Math.max(1, commonFactor((long) q * c, b));
                    boolean has = q >= 0;
                    leastDue(x, has ? 2 : 1, has ? q * c / factor : 0, has ? b / factor : 0, 0, 0, 0, q, 0, 0);
                }
            }
        }
    }

    private static void leastWithAbsentNumbers() {
        for (int n = 1; n <= 3; n++) {
            CountedFinder x = new CountedFinder();
            x.begin(n);
            x.rule(-2, 0, 0, 0, 0, 0, 5);
            for (int v = 1; v < 3; v++) {
                for (int number : new int[] {1, -1, 99, -99}) {
                    for (int from = 0; from <= 3; from += 3) {
                        int[] goal = {1, 0, 0, 0, 0, 0};
                        goal[from + v] = number;
                        leastDue(x, v < n ? 1 : 2, v < n ? 0 : -5, v < n ? 0 : 2, goal);
                    }
                }
            }
        }
    }

    private static void leastRefuses() {
        for (State state : State.values()) {
            for (int i = 0; i < 6; i++) {
                int at = i;
                for (int number : outside(99)) {
                    refused(state, "number " + i + " " + number, x -> x.least(with(6, at, number)) == -1);
                }
            }
        }
        for (int n = 1; n <= 3; n++) {
            for (int i = 0; i < 6; i++) {
                CountedFinder x = new CountedFinder();
                x.begin(n);
                int found = i % 3 < n ? 1 : 2;
                due("99 is such", x.least(with(6, i, 99)), found);
                due("-99 is such", x.least(with(6, i, -99)), found);
                due("100 is not such", x.least(with(6, i, 100)), -1);
                due("-100 is not such", x.least(with(6, i, -100)), -1);
            }
        }
    }

    private static void leastRefusedLeavesWhatWasFound() {
        CountedFinder x = new CountedFinder();
        x.rule(-4, 0, 0, 0, 0, 0, 6);
        for (int i = 0; i < 6; i++) {
            leastDue(x, 2, -3, 2, 1, 0, 0, 0, 0, 0);
            leastDue(x, -1, -3, 2, with(6, i, 100));
            leastDue(x, 1, 0, 0, -1, 0, 0, 0, 0, 0);
            leastDue(x, -1, 0, 0, with(6, i, -100));
            leastDue(x, 2, 0, 1, NO_FACTORS);
            leastDue(x, -1, 0, 1, with(6, i, MOST));
            x.rule(0, 0, 0, 0, 0, 0, -1);
            // The loop has no turn any more, but a number that is not such goes before that.
            leastDue(x, -1, 0, 1, with(6, i, LEAST));
            leastDue(x, 0, 0, 0, 1, 0, 0, 0, 0, 0);
            leastDue(x, -1, 0, 0, with(6, i, 100));
            x.drop(1);
        }
    }

    private static void lowestTerms() {
        for (int b = 1; b <= 9; b++) {
            for (int c = -99; c <= 99; c += 3) {
                CountedFinder x = new CountedFinder();
                x.rule(-b, 0, 0, 0, 0, 0, -c);
                for (int p = 1; p <= 99; p += 14) {
                    due("least", x.least(p, 0, 0, 0, 0, 0), 2);
                    long top = x.top();
                    long bottom = x.bottom();
                    hold("above 0: " + bottom, bottom > 0);
                    due("no common factor of " + top + "/" + bottom, commonFactor(top, bottom), 1);
                    due(p + " " + c + "/" + b + " is " + top + "/" + bottom, top * b, (long) p * c * bottom);
                }
            }
        }
        CountedFinder x = new CountedFinder();
        x.rule(-8, 0, 0, 0, 0, 0, 0);
        leastDue(x, 2, 0, 1, 6, 0, 0, 0, 0, 0);
    }

    private static void topBeyondInt() {
        int[][] rules = {
            {8, 9, -9, -9, -9, 9, 98}, {9, 8, 9, -9, 9, 9, 99}, {-9, -9, -9, 8, 9, 9, 99},
            {-9, 9, 9, 9, -8, -9, 99}, {9, -9, -8, 9, 9, -9, 99}, {-9, -9, 9, -9, -9, -9, 98}};
        greatLeastDue(rules, -315446447962L, 991287, 99, -99, 97, 99, -99, 98);
        // Six rules meet in one corner, so the other sign of all c makes it of the least as well.
        for (int[] rule : rules) {
            rule[6] = -rule[6];
        }
        greatLeastDue(rules, 315446447962L, 991287, 99, -99, 97, 99, -99, 98);
        int[][] others = {
            {9, 9, -9, 8, 9, 9, 97}, {9, -9, -9, -9, 8, -9, 57}, {-9, 9, -9, 9, -9, -9, 47},
            {-9, -9, -9, 9, 9, 8, -90}, {9, -9, -8, 9, -9, 9, -19}, {-9, 8, -9, -9, -9, 9, 59}};
        greatLeastDue(others, -41629616393L, 80709525, -7, -52, 94, -56, -31, -59);
    }

    private static void greatLeastDue(int[][] rules, long top, long bottom, int... goal) {
        CountedFinder x = new CountedFinder();
        x.begin(3);
        for (int[] rule : rules) {
            x.rule(rule);
        }
        leastDue(x, 2, top, bottom, goal);
        leastDue(x, -1, top, bottom, 0, 0, 0, 0, 0, 100);
        BigInteger[] oracle = new Oracle(3, rules).least(goal);
        due("the oracle's top", oracle[0].longValueExact(), top);
        due("the oracle's bottom", oracle[1].longValueExact(), bottom);
    }

    private static void latestLeastTells() {
        CountedFinder x = new CountedFinder();
        x.rule(-3, 0, 0, 0, 0, 0, -2);
        leastDue(x, 2, 2, 3, 1, 0, 0, 0, 0, 0);
        leastDue(x, 2, 4, 3, 2, 0, 0, 0, 0, 0);
        leastDue(x, 1, 0, 0, -1, 0, 0, 0, 0, 0);
        leastDue(x, 2, 2, 3, 1, 0, 0, 0, 0, 0);
        x.rule(1, 0, 0, 0, 0, 0, 0);
        leastDue(x, -1, 2, 3, 100, 0, 0, 0, 0, 0);
        leastDue(x, 0, 0, 0, 1, 0, 0, 0, 0, 0);
        x.drop(1);
        leastDue(x, -1, 0, 0, 100, 0, 0, 0, 0, 0);
        leastDue(x, 2, 2, 1, 3, 0, 0, 0, 0, 0);
    }

    private static void otherCallsLeaveTopAndBottom() {
        for (State state : State.values()) {
            CountedFinder x = state.made();
            x.hasTurn();
            x.ranked();
            x.ranks(1, 2, 3, 4);
            x.ranks(0, 0, 0, 1000);
            x.keeps(1, 2, 3, 4, 5, 6);
            x.number(0, 0);
            stateDue(x, state);
            x.drop(0);
            due(state + " top behind drop", x.top(), state.top);
            due(state + " bottom behind drop", x.bottom(), state.bottom);
            x.rule(0, 0, 0, 0, 0, 0, -1);
            due(state + " top behind rule", x.top(), state.top);
            due(state + " bottom behind rule", x.bottom(), state.bottom);
            for (int n = 3; n >= 0; n--) {
                x.begin(n);
                due(state + " top behind begin", x.top(), state.top);
                due(state + " bottom behind begin", x.bottom(), state.bottom);
            }
        }
    }

    private static void topBeforeAnyLeast() {
        CountedFinder x = new CountedFinder();
        leastDue(x, -1, 0, 0, 100, 0, 0, 0, 0, 0);
        leastDue(x, -1, 0, 0, 0, 0, 0, 0, 0, -100);
        x.begin(3);
        x.rule(-3, 0, 0, 0, 0, 0, -2);
        due("top()", x.top(), 0);
        due("bottom()", x.bottom(), 0);
        leastDue(x, -1, 0, 0, 0, 0, 0, 0, 0, MOST);
        leastDue(x, 2, 2, 3, 1, 0, 0, 0, 0, 0);
    }
}
