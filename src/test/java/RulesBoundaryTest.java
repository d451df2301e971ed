/** The boundary cases of promises 1 to 6. */
public final class RulesBoundaryTest extends Sentences {
    public static void main(String[] args) {
        test("1: one variable, no rules", RulesBoundaryTest::newIsLikeBegun);
        test("1: nothing was looked for", RulesBoundaryTest::newHasLookedForNothing);
        test("2: a new loop, without rules", RulesBoundaryTest::beginTakesAllRules);
        test("2: false when n is not 1 .. 3", RulesBoundaryTest::beginRefuses);
        test("3: one more rule, behind the others", RulesBoundaryTest::ruleGoesBehind);
        test("3: NONE when there are 8", RulesBoundaryTest::ruleRefusesTheNinth);
        test("3: NONE when a number is not such", RulesBoundaryTest::ruleRefusesNumbers);
        test("4: those behind it are each numbered one less", RulesBoundaryTest::dropMovesThoseBehind);
        test("4: false when there is none such", RulesBoundaryTest::dropRefuses);
        test("5: how many rules there are", RulesBoundaryTest::rulesAreCounted);
        test("6: i = 0 .. 2 of a, 3 .. 5 of b, 6 c", RulesBoundaryTest::numberTellsEach);
        test("6: as it was told", RulesBoundaryTest::numberIsAsTold);
        test("6: 0 when there is none such", RulesBoundaryTest::numberOfNone);
        finish();
    }

    private static void newIsLikeBegun() {
        CountedFinder begun = new CountedFinder();
        begun.begin(1);
        hold("questions", Answers.ofQuestions(new CountedFinder()).equals(Answers.ofQuestions(begun)));
        hold("going on", Answers.ofGoingOn(new CountedFinder()).equals(Answers.ofGoingOn(begun)));
        State.THREE_FULL.made();
        stateDue(new CountedFinder(), State.NEW);
    }

    private static void newHasLookedForNothing() {
        CountedFinder x = new CountedFinder();
        due("top()", x.top(), 0);
        due("bottom()", x.bottom(), 0);
        x.rule(-2, 0, 0, 0, 0, 0, 7);
        x.hasTurn();
        x.ranked();
        x.ranks(1, 0, 0, 9);
        x.least(0, 0, 0, 0, 0, 100);
        due("top() without a look", x.top(), 0);
        due("bottom() without a look", x.bottom(), 0);
    }

    private static void beginTakesAllRules() {
        for (State state : State.values()) {
            for (int n = 1; n <= 3; n++) {
                CountedFinder x = state.made();
                CountedFinder fresh = new CountedFinder();
                due(state + " begin(" + n + ")", x.begin(n), true);
                fresh.begin(n);
                due(state + " rules()", x.rules(), 0);
                due(state + " number(0, 0)", x.number(0, 0), 0);
                due(state + " drop(0)", x.drop(0), false);
                hold(state + " goes on as a new one", Answers.ofGoingOn(x).equals(Answers.ofGoingOn(fresh)));
            }
        }
    }

    private static void beginRefuses() {
        for (State state : State.values()) {
            for (int n : new int[] {0, 4, -1, 5, -3, 257, 1 << 16, MOST, LEAST, LEAST + 1}) {
                refused(state, "begin(" + n + ")", x -> !x.begin(n));
            }
        }
    }

    private static void ruleGoesBehind() {
        CountedFinder x = new CountedFinder();
        due("first", x.rule(1, 2, 3, 4, 5, 6, 7), 0);
        due("the same again", x.rule(1, 2, 3, 4, 5, 6, 7), 1);
        due("of nothing", x.rule(0, 0, 0, 0, 0, 0, 0), 2);
        due("rules()", x.rules(), 3);
        x.drop(0);
        due("behind the others", x.rule(-9, 9, -9, 9, -9, 9, -99), 2);
        due("its a0", x.number(2, 0), -9);
        due("its c", x.number(2, 6), -99);
        due("the one before it", x.number(1, 0), 0);
    }

    private static void ruleRefusesTheNinth() {
        for (State state : State.values()) {
            if (state.isFull()) {
                refused(state, "a rule of nothing", x -> x.rule(0, 0, 0, 0, 0, 0, 0) == -1);
                refused(state, "a rule that leaves no turn", x -> x.rule(0, 0, 0, 0, 0, 0, -1) == -1);
                refused(state, "a rule", x -> x.rule(9, 8, 7, 6, 5, 4, 99) == -1);
            } else {
                due(state + " takes one more", state.made().rule(9, 8, 7, 6, 5, 4, 99), state.rules);
            }
        }
    }

    private static void ruleRefusesNumbers() {
        for (State state : State.values()) {
            for (int i = 0; i < 7; i++) {
                int at = i;
                for (int number : outside(i < 6 ? 9 : 99)) {
                    refused(state, "number " + i + " " + number, x -> x.rule(with(7, at, number)) == -1);
                }
            }
        }
        // All others at their limits.
        for (int i = 0; i < 7; i++) {
            int[] rule = {9, -9, 9, -9, 9, -9, -99};
            due("at the limits", new CountedFinder().rule(rule), 0);
            rule[i] += rule[i] > 0 ? 1 : -1;
            due("one beyond", new CountedFinder().rule(rule), -1);
        }
    }

    private static void dropMovesThoseBehind() {
        for (int count = 1; count <= 8; count++) {
            for (int k = 0; k < count; k++) {
                CountedFinder x = new CountedFinder();
                for (int rule = 0; rule < count; rule++) {
                    x.rule(rule, -rule, 1, rule - 9, 9 - rule, 2, 10 * rule);
                }
                due("drop(" + k + ") of " + count, x.drop(k), true);
                due("rules()", x.rules(), count - 1);
                for (int rule = 0; rule < count - 1; rule++) {
                    int was = rule < k ? rule : rule + 1;
                    int[] numbers = {was, -was, 1, was - 9, 9 - was, 2, 10 * was};
                    for (int i = 0; i < 7; i++) {
                        due("number(" + rule + ", " + i + ")", x.number(rule, i), numbers[i]);
                    }
                }
                due("the last number is free", x.number(count - 1, 2), 0);
                due("and is given again", x.rule(0, 0, 0, 0, 0, 0, 0), count - 1);
            }
        }
    }

    private static void dropRefuses() {
        for (State state : State.values()) {
            for (int k : new int[] {-1, state.rules, state.rules + 1, 8, 9, -8, 256, MOST, LEAST}) {
                refused(state, "drop(" + k + ")", x -> !x.drop(k));
            }
            if (state.rules > 0) {
                due(state + " the first", state.made().drop(0), true);
                due(state + " the last", state.made().drop(state.rules - 1), true);
            }
        }
    }

    private static void rulesAreCounted() {
        CountedFinder x = new CountedFinder();
        due("none", x.rules(), 0);
        for (int k = 1; k <= 8; k++) {
            x.rule(0, 0, 0, 0, 0, 0, -1);
            due("one more", x.rules(), k);
            x.rule(10, 0, 0, 0, 0, 0, 0);
            x.drop(k);
            due("behind refused calls", x.rules(), k);
        }
        x.rule(0, 0, 0, 0, 0, 0, 0);
        due("behind the ninth", x.rules(), 8);
        for (int k = 7; k >= 0; k--) {
            x.drop(k / 2);
            due("one less", x.rules(), k);
        }
        x.drop(0);
        due("not below none", x.rules(), 0);
        x.rule(0, 0, 0, 0, 0, 0, 0);
        x.begin(0);
        due("behind a refused begin", x.rules(), 1);
        x.begin(1);
        due("behind begin", x.rules(), 0);
    }

    private static void numberTellsEach() {
        CountedFinder x = new CountedFinder();
        x.begin(3);
        x.rule(1, 2, 3, -4, -5, -6, 70);
        x.rule(9, 8, 7, 6, 5, 4, -99);
        int[][] told = {{0, 1, 2, 3, -4, -5, -6, 70, 0}, {0, 9, 8, 7, 6, 5, 4, -99, 0}};
        for (int k = 0; k < 2; k++) {
            for (int i = -1; i <= 7; i++) {
                due("number(" + k + ", " + i + ")", x.number(k, i), told[k][i + 1]);
            }
        }
    }

    private static void numberIsAsTold() {
        for (int n = 1; n <= 3; n++) {
            CountedFinder x = new CountedFinder();
            x.begin(n);
            x.rule(6, -4, 2, 8, -8, 4, -98);
            x.ranked();
            x.hasTurn();
            x.least(99, 0, 0, 0, 0, 0);
            int[] told = {6, -4, 2, 8, -8, 4, -98};
            for (int i = 0; i < 7; i++) {
                due("number(0, " + i + ") of " + n, x.number(0, i), told[i]);
            }
        }
    }

    private static void numberOfNone() {
        for (State state : State.values()) {
            for (int i : new int[] {-1, 7, 8, -7, 256, MOST, LEAST}) {
                refused(state, "number(0, " + i + ")", x -> x.number(0, i) == 0);
                refused(state, "number(1, " + i + ")", x -> x.number(1, i) == 0);
            }
            for (int k : new int[] {-1, state.rules, 8, 9, -8, 256, MOST, LEAST}) {
                refused(state, "number(" + k + ", 6)", x -> x.number(k, 0) == 0 && x.number(k, 6) == 0);
                refused(state, "number(" + k + ", -1)", x -> x.number(k, -1) == 0 && x.number(k, 7) == 0);
            }
        }
    }
}
