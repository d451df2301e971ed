import java.util.Random;
import java.util.TreeSet;

/** The boundary cases of 'What it is' and of 'Terms'. */
public final class TermsBoundaryTest extends Sentences {
    public static void main(String[] args) {
        test("tests: the states are as they say", TermsBoundaryTest::statesAreAsTheySay);
        test("tests: the answers tell the states apart", TermsBoundaryTest::answersTellStatesApart);
        test("an object is used for at most 512 calls: all calls", TermsBoundaryTest::mixedCallsUpTo512);
        test("an object is used for at most 512 calls: one call again and again", TermsBoundaryTest::sameCallUpTo512);
        test("an object is used for at most 512 calls: rules come and go", TermsBoundaryTest::rulesComeAndGoUpTo512);
        test("N is 1 .. 3", TermsBoundaryTest::variablesAreOneToThree);
        test("N is 1 at first", TermsBoundaryTest::oneVariableAtFirst);
        test("8 rules at most", TermsBoundaryTest::eightRulesAtMost);
        test("none at first", TermsBoundaryTest::noRuleAtFirst);
        test("a0 .. b2 of -9 .. 9", TermsBoundaryTest::factorsWithinNine);
        test("c of -99 .. 99", TermsBoundaryTest::boundWithinNinetyNine);
        test("keeps it when it is c at most", TermsBoundaryTest::keptAtTheBound);
        test("the others are of no matter", TermsBoundaryTest::absentTermsAreOfNoMatter);
        test("the loop are the turns that keep all rules", TermsBoundaryTest::allRulesAreKept);
        test("ranks: 0 or more of x, at least 1 less of y", TermsBoundaryTest::rankingLimits);
        test("ranks: for every turn of the loop, and of x alone", TermsBoundaryTest::rankingLooksAtTurnsAlone);
        test("a call that is refused changes nothing", TermsBoundaryTest::manyRefusedCallsChangeNothing);
        finish();
    }

    private static void statesAreAsTheySay() {
        for (State state : State.values()) {
            stateDue(state.made(), state);
            CountedFinder x = state.made();
            for (int v = 1; v < 3; v++) {
                if (state.rules == 0) {
                    due(state + " variable " + v, x.least(with(6, v, 1)), v < state.variables ? 1 : 2);
                }
            }
        }
    }

    private static void answersTellStatesApart() {
        TreeSet<String> questions = new TreeSet<>();
        TreeSet<String> goingOn = new TreeSet<>();
        for (State state : State.values()) {
            questions.add(Answers.ofQuestions(state.made()));
            goingOn.add(Answers.ofGoingOn(state.made()));
        }
        // Two bare loops of one and of two variables differ in what least() answers alone.
        due("questions", questions.size(), State.values().length - 1);
        due("going on", goingOn.size(), State.values().length);
    }

    private static void mixedCallsUpTo512() {
        CountedFinder x = new CountedFinder();
        for (int round = 0; round < 16; round++) {
            hold("begin", x.begin(3));
            State.tellOfGreatRules(x, 8);
            due("a ninth rule", x.rule(0, 0, 0, 0, 0, 0, 0), -1);
            due("rules", x.rules(), 8);
            due("hasTurn", x.hasTurn(), true);
            due("ranked", x.ranked(), false);
            due("ranks", x.ranks(3, 1, 2, 50), false);
            leastDue(x, 2, -36816, 73, 1, 2, 3, 4, 5, 6);
            leastDue(x, 2, -65164, 7541, -1, 0, 0, 0, 0, 0);
            leastDue(x, 2, -123092739, 16981, 99, -99, 99, -99, 99, -99);
            leastDue(x, -1, -123092739, 16981, 99, -99, 99, -99, 99, -100);
            due("keeps", x.keeps(0, 0, 0, 0, 0, 0), false);
            due("number", x.number(7, 6), 20);
            due("drop", x.drop(6), true);
            due("no least", x.least(1, 2, 3, 4, 5, 6), 1);
            due("no least's top", x.top(), 0);
            due("number", x.number(6, 6), 20);
        }
        due("so many calls", x.calls(), 512);
    }

    private static void sameCallUpTo512() {
        State state = State.THREE_FULL;
        CountedFinder[] x = new CountedFinder[12];
        for (int i = 0; i < x.length; i++) {
            x[i] = state.made();
        }
        for (int call = x[0].calls(); call < 512; call++) {
            due("begin", x[0].begin(4), false);
            due("rule", x[1].rule(0, 0, 0, 0, 0, 0, 0), -1);
            due("drop", x[2].drop(8), false);
            due("rules", x[3].rules(), 8);
            due("number", x[4].number(7, 4), 7);
            due("keeps", x[5].keeps(0, 0, 0, 0, 0, 0), false);
            due("hasTurn", x[6].hasTurn(), true);
            due("ranked", x[7].ranked(), false);
            due("ranks", x[8].ranks(3, 1, 2, 50), false);
            due("least", x[9].least(1, 2, 3, 4, 5, 6), 2);
            due("top", x[10].top(), state.top);
            due("bottom", x[11].bottom(), state.bottom);
        }
    }

    private static void rulesComeAndGoUpTo512() {
        CountedFinder x = new CountedFinder();
        for (int k = 0; k < 8; k++) {
            x.rule(0, 0, 0, 0, 0, 0, k);
        }
        for (int i = 0; i < 126; i++) {
            due("drop", x.drop(0), true);
            due("rule", x.rule(0, 0, 0, 0, 0, 0, i % 99), 7);
            due("first", x.number(0, 6), i < 7 ? i + 1 : (i - 7) % 99);
            due("last", x.number(7, 6), i % 99);
        }
        due("so many calls", x.calls(), 512);
    }

    private static void variablesAreOneToThree() {
        CountedFinder x = new CountedFinder();
        int[] accepted = {1, 2, 3, 2, 1, 3, 1};
        for (int n : accepted) {
            due("begin(0)", x.begin(0), false);
            due("begin(4)", x.begin(4), false);
            due("begin(" + n + ")", x.begin(n), true);
            for (int v = 0; v < 3; v++) {
                // Without rules each variable that is there has no least, before the turn and behind it.
                due("x" + v + " of " + n, x.least(with(6, v, 1)), v < n ? 1 : 2);
                due("y" + v + " of " + n, x.least(with(6, 3 + v, -1)), v < n ? 1 : 2);
            }
        }
    }

    private static void oneVariableAtFirst() {
        for (int v = 0; v < 3; v++) {
            due("x" + v, new CountedFinder().least(with(6, v, 1)), v == 0 ? 1 : 2);
            due("y" + v, new CountedFinder().least(with(6, 3 + v, 1)), v == 0 ? 1 : 2);
        }
        CountedFinder x = new CountedFinder();
        x.rule(-1, 0, 0, 0, 0, 0, 0);
        x.rule(-1, 0, 0, 1, 0, 0, -1);
        due("the second is of no matter", x.ranks(1, 1, 1, 0), true);
    }

    private static void eightRulesAtMost() {
        for (int n = 1; n <= 3; n++) {
            CountedFinder x = new CountedFinder();
            x.begin(n);
            for (int k = 0; k < 8; k++) {
                due("rule " + k, x.rule(0, 0, 0, 0, 0, 0, k), k);
            }
            due("rules()", x.rules(), 8);
            // A ninth that would leave no turn.
            due("rule 8", x.rule(0, 0, 0, 0, 0, 0, -1), -1);
            due("rules()", x.rules(), 8);
            due("hasTurn()", x.hasTurn(), true);
            due("number(7, 6)", x.number(7, 6), 7);
            due("number(8, 6)", x.number(8, 6), 0);
            due("drop(7)", x.drop(7), true);
            due("an eighth again", x.rule(0, 0, 0, 0, 0, 0, -1), 7);
            due("hasTurn()", x.hasTurn(), false);
        }
    }

    private static void noRuleAtFirst() {
        CountedFinder x = new CountedFinder();
        due("rules()", x.rules(), 0);
        due("number(0, 6)", x.number(0, 6), 0);
        due("drop(0)", x.drop(0), false);
        due("keeps", x.keeps(MOST, MOST, MOST, LEAST, LEAST, LEAST), true);
        due("the first one's number", x.rule(1, 1, 1, 1, 1, 1, 1), 0);
    }

    private static void factorsWithinNine() {
        for (int i = 0; i < 6; i++) {
            numbersWithin(i, 9);
        }
    }

    private static void boundWithinNinetyNine() {
        numbersWithin(6, 99);
    }

    private static void numbersWithin(int i, int limit) {
        for (int n = 1; n <= 3; n++) {
            for (int number = -limit - 2; number <= limit + 2; number++) {
                boolean isSuch = number >= -limit && number <= limit;
                CountedFinder x = new CountedFinder();
                x.begin(n);
                due("number " + i + " " + number, x.rule(with(7, i, number)), isSuch ? 0 : -1);
                due("rules()", x.rules(), isSuch ? 1 : 0);
                due("number(0, " + i + ")", x.number(0, i), isSuch ? number : 0);
            }
        }
    }

    private static void keptAtTheBound() {
        for (int c = -99; c <= 99; c++) {
            CountedFinder x = new CountedFinder();
            x.begin(3);
            x.rule(1, 0, 0, 0, 0, 0, c);
            due("less than " + c, x.keeps(c - 1, 0, 0, 0, 0, 0), true);
            due("just " + c, x.keeps(c, 0, 0, 0, 0, 0), true);
            due("more than " + c, x.keeps(c + 1, 0, 0, 0, 0, 0), false);
        }
        for (int i = 0; i < 6; i++) {
            CountedFinder x = new CountedFinder();
            x.begin(3);
            x.rule(9, 9, 9, 9, 9, 9, 90);
            due("10 of number " + i, x.keeps(with(6, i, 10)), true);
            due("11 of number " + i, x.keeps(with(6, i, 11)), false);
            x.begin(3);
            x.rule(-9, -9, -9, -9, -9, -9, -90);
            due("10 of number " + i, x.keeps(with(6, i, 10)), true);
            due("9 of number " + i, x.keeps(with(6, i, 9)), false);
        }
    }

    private static void absentTermsAreOfNoMatter() {
        Random random = new Random(77);
        for (int loop = 0; loop < 400; loop++) {
            int n = 1 + loop % 2;
            CountedFinder bare = new CountedFinder();
            CountedFinder full = new CountedFinder();
            bare.begin(n);
            full.begin(n);
            for (int k = random.nextInt(5); k >= 0; k--) {
                int[] rule = numbers(6, 3, random);
                int[] bareRule = withoutAbsent(rule, n);
                int c = random.nextInt(9) - 4;
                full.rule(rule[0], rule[1], rule[2], rule[3], rule[4], rule[5], c);
                bare.rule(bareRule[0], bareRule[1], bareRule[2], bareRule[3], bareRule[4], bareRule[5], c);
            }
            due("hasTurn", full.hasTurn(), bare.hasTurn());
            due("ranked", full.ranked(), bare.ranked());
            for (int i = 0; i < 9; i++) {
                int[] row = numbers(6, 5, random);
                int[] bareRow = withoutAbsent(row, n);
                due("keeps", full.keeps(row), bare.keeps(bareRow));
                due("ranks", full.ranks(row[0], row[1], row[2], 99),
                        bare.ranks(bareRow[0], bareRow[1], bareRow[2], 99));
                due("least", full.least(row), bare.least(bareRow));
                due("top", full.top(), bare.top());
                due("bottom", full.bottom(), bare.bottom());
            }
        }
    }

    private static int[] numbers(int length, int limit, Random random) {
        int[] row = new int[length];
        for (int i = 0; i < length; i++) {
            row[i] = random.nextInt(2 * limit + 1) - limit;
        }
        return row;
    }

    private static int[] withoutAbsent(int[] row, int n) {
        int[] bare = row.clone();
        for (int v = n; v < 3; v++) {
            bare[v] = 0;
            bare[3 + v] = 0;
        }
        return bare;
    }

    private static void allRulesAreKept() {
        for (int first = 0; first < 8; first++) {
            for (int second = 0; second < 8; second++) {
                if (first != second) {
                    twoRulesOfEightAreKept(first, second);
                }
            }
        }
    }

    /** x is 0 at least and falls by 1, each told by one rule; the other six say nothing. */
    private static void twoRulesOfEightAreKept(int bound, int fall) {
        CountedFinder x = new CountedFinder();
        for (int k = 0; k < 8; k++) {
            x.rule(k == bound || k == fall ? -1 : 0, 0, 0, k == fall ? 1 : 0, 0, 0, k == fall ? -1 : 0);
        }
        String which = " by rules " + bound + " and " + fall;
        due("kept" + which, x.keeps(0, 0, 0, -1, 0, 0), true);
        due("not kept" + which, x.keeps(-1, 0, 0, -2, 0, 0), false);
        due("not kept" + which, x.keeps(0, 0, 0, 0, 0, 0), false);
        due("ranked" + which, x.ranked(), true);
        due("ranks" + which, x.ranks(1, 0, 0, 0), true);
        leastDue(x, 2, 0, 1, 1, 0, 0, 0, 0, 0);
        leastDue(x, 2, 1, 1, 1, 0, 0, -1, 0, 0);
        x.drop(bound);
        due("not ranked without a bound" + which, x.ranked(), false);
        due("hasTurn" + which, x.hasTurn(), true);
        due("y is 0 at least now", x.rule(0, 0, 0, -1, 0, 0, 0), 7);
        due("so that x is 1 at least", x.ranks(1, 0, 0, -1), true);
        x.drop(bound < fall ? fall - 1 : fall);
        due("not ranked without a fall" + which, x.ranked(), false);
        due("a contradiction", x.rule(0, 0, 0, 1, 0, 0, -1), 7);
        due("no turn" + which, x.hasTurn(), false);
    }

    private static void rankingLimits() {
        // x is bound / 9 at least and falls by fall / 9 at least.
        for (int bound = -18; bound <= 18; bound += 3) {
            for (int fall = -2; fall <= 10; fall++) {
                CountedFinder x = new CountedFinder();
                x.rule(-9, 0, 0, 0, 0, 0, -bound);
                x.rule(-9, 0, 0, 9, 0, 0, -fall);
                for (int r = -1; r <= 10; r++) {
                    // The two whole numbers next to -r bound / 9, and those around them.
                    int edge = Math.floorDiv(-r * bound, 9);
                    for (int s = edge - 1; s <= edge + 2; s++) {
                        boolean isDue = r > 0 && r * bound + 9 * s >= 0 && r * fall >= 9;
                        due("bound " + bound + "/9, fall " + fall + "/9, " + r + " x + " + s,
                                x.ranks(r, 0, 0, s), isDue);
                    }
                }
                due("bound " + bound + "/9, fall " + fall + "/9", x.ranked(), fall > 0);
            }
        }
    }

    private static void rankingLooksAtTurnsAlone() {
        CountedFinder x = new CountedFinder();
        x.rule(-1, 0, 0, 0, 0, 0, 0);
        x.rule(-1, 0, 0, 1, 0, 0, -1);
        due("below 0 behind the turn", x.keeps(0, 0, 0, -1, 0, 0), true);
        due("below 0 behind the turn", x.ranks(1, 0, 0, 0), true);
        x.rule(0, 0, 0, -1, 0, 0, 0);
        // Now y is 0 or more too, so a value of 0 is not before any turn.
        due("no turn from 0", x.ranks(1, 0, 0, -1), true);
        due("a turn from 1", x.ranks(1, 0, 0, -2), false);
        x.rule(-1, 0, 0, 0, 0, 0, -5);
        due("no turn from 4", x.ranks(1, 0, 0, -5), true);
        due("a turn from 5", x.ranks(1, 0, 0, -6), false);
        x.begin(1);
        x.rule(-1, 0, 0, 1, 0, 0, -1);
        due("turns from any value", x.ranks(1, 0, 0, 999), false);
        x.begin(1);
        x.rule(-1, 0, 0, 0, 0, 0, 0);
        due("turns to any value", x.ranks(1, 0, 0, 999), false);
    }

    private static void manyRefusedCallsChangeNothing() {
        for (State state : State.values()) {
            refused(state, "all refused calls", x -> {
                boolean refused = !x.begin(0) && !x.begin(4) && !x.drop(-1) && !x.drop(state.rules);
                for (int i = 0; i < 7; i++) {
                    refused &= x.rule(with(7, i, 100)) == -1;
                }
                for (int i = 0; i < 6; i++) {
                    refused &= x.least(with(6, i, -100)) == -1;
                }
                for (int i = 0; i < 4; i++) {
                    refused &= !x.ranks(with(4, i, 1000));
                }
                return refused;
            });
        }
    }
}
