/** The promises of the document one by one: ordinary inputs, the edges it names, wrong inputs. */
public final class PromiseTest {
    private static final int[] OUTSIDE_INT = {Integer.MIN_VALUE, Integer.MAX_VALUE};
    private static int wrong = 0;

    public static void main(String[] args) {
        promise1NewObject();
        promise2Begin();
        promise3Rule();
        promise3RuleLimits();
        promise4Drop();
        promise5Rules();
        promise6Number();
        promise7Keeps();
        promise8HasTurn();
        promise9Ranked();
        promise9RankedByMixtures();
        promise10Ranks();
        promise10RanksLimits();
        promise11Least();
        promise11LeastLimits();
        promise12And13TopAndBottom();
        promise12And13LatestLeast();
        greatestNumbers();
        refusedCallsChangeNothing();
        questionsChangeNothing();
        objectsAreApart();
        System.out.println(wrong == 0 ? "all promises hold" : wrong + " answers are not as due");
        System.exit(wrong == 0 ? 0 : 1);
    }

    private static void promise1NewObject() {
        CountedFinder x = new CountedFinder();
        due("1: NONE", RankFinder.NONE, -1);
        due("1: rules", x.rules(), 0);
        due("1: top", x.top(), 0);
        due("1: bottom", x.bottom(), 0);
        due("1: has a turn", x.hasTurn(), true);
        due("1: all is kept", x.keeps(1, 2, 3, 4, 5, 6), true);
        due("1: number", x.number(0, 0), 0);
        // With one variable the second is of no matter; with two it would have no least.
        due("1: one variable", x.least(0, 1, 1, 0, 1, 1), 2);
    }

    private static void promise2Begin() {
        CountedFinder x = new CountedFinder();
        for (int n = 1; n <= 3; n++) {
            due("2: begin", x.begin(n), true);
            due("2: no rules", x.rules(), 0);
            due("2: second variable", x.least(0, 1, 0, 0, 0, 0), n >= 2 ? 1 : 2);
            due("2: third variable", x.least(0, 0, 0, 0, 0, 1), n >= 3 ? 1 : 2);
            x.rule(1, 0, 0, 0, 0, 0, -5);
            x.rule(-1, 0, 0, 0, 0, 0, -5);
            due("2: rules of before", x.rules(), 2);
            due("2: no turn before", x.hasTurn(), false);
        }
        due("2: the same n", x.begin(3), true);
        due("2: rules are gone", x.rules(), 0);
        due("2: numbers are gone", x.number(0, 0), 0);
        due("2: has turns again", x.hasTurn(), true);
        for (int n : new int[] {0, -1, 4, 5, Integer.MIN_VALUE, Integer.MAX_VALUE}) {
            due("2: refused", x.begin(n), false);
        }
    }

    private static void promise3Rule() {
        CountedFinder x = new CountedFinder();
        for (int n = 1; n <= 3; n++) {
            x.begin(n);
            for (int k = 0; k < 8; k++) {
                due("3: numbers", x.rule(k, -k, 9, -9, 1, 0, 99 - k), k);
            }
            due("3: a ninth", x.rule(0, 0, 0, 0, 0, 0, 0), -1);
            due("3: eight stay", x.rules(), 8);
            due("3: the last stays", x.number(7, 6), 92);
            x.drop(2);
            due("3: again an eighth", x.rule(3, 0, 0, 0, 0, 0, 0), 7);
            due("3: behind the others", x.number(7, 0), 3);
            due("3: and no ninth", x.rule(0, 0, 0, 0, 0, 0, 0), -1);
        }
    }

    private static void promise3RuleLimits() {
        CountedFinder x = new CountedFinder();
        for (int n = 1; n <= 3; n++) {
            for (int i = 0; i < 7; i++) {
                int limit = i < 6 ? 9 : 99;
                x.begin(n);
                due("3: the most", ruleWith(x, i, limit), 0);
                due("3: the least", ruleWith(x, i, -limit), 1);
                due("3: too much", ruleWith(x, i, limit + 1), -1);
                due("3: too little", ruleWith(x, i, -limit - 1), -1);
                for (int number : OUTSIDE_INT) {
                    due("3: far outside", ruleWith(x, i, number), -1);
                }
                due("3: only two are there", x.rules(), 2);
                due("3: as told", x.number(0, i), limit);
                due("3: as told", x.number(1, i), -limit);
            }
        }
    }

    private static int ruleWith(CountedFinder x, int i, int number) {
        int[] r = new int[7];
        r[i] = number;
        return x.rule(r);
    }

    private static void promise4Drop() {
        CountedFinder x = new CountedFinder();
        due("4: none is there", x.drop(0), false);
        for (int k = 0; k < 4; k++) {
            x.rule(k, k, k, k, k, k, 10 * k);
        }
        due("4: below", x.drop(-1), false);
        due("4: above", x.drop(4), false);
        due("4: far", x.drop(Integer.MIN_VALUE) || x.drop(Integer.MAX_VALUE), false);
        due("4: four stay", x.rules(), 4);
        due("4: a middle one", x.drop(1), true);
        due("4: three stay", x.rules(), 3);
        for (int i = 0; i < 7; i++) {
            due("4: before it", x.number(0, i), 0);
            due("4: behind it", x.number(1, i), i == 6 ? 20 : 2);
            due("4: last", x.number(2, i), i == 6 ? 30 : 3);
            due("4: none there", x.number(3, i), 0);
        }
        due("4: not there any more", x.drop(3), false);
        due("4: the last one", x.drop(2), true);
        due("4: the first one", x.drop(0), true);
        due("4: who is left", x.number(0, 6), 20);
        due("4: the only one", x.drop(0), true);
        due("4: none is left", x.rules(), 0);
        due("4: none is left", x.drop(0), false);
        x.rule(0, 0, 0, 0, 0, 0, -1);
        due("4: not to be kept", x.hasTurn(), false);
        x.drop(0);
        due("4: gone from the loop", x.hasTurn(), true);
    }

    private static void promise5Rules() {
        CountedFinder x = new CountedFinder();
        for (int k = 0; k < 8; k++) {
            due("5: one more each", x.rules(), k);
            x.rule(1, 1, 1, 1, 1, 1, 1);
        }
        for (int k = 8; k > 0; k--) {
            due("5: one less each", x.rules(), k);
            x.drop(0);
        }
        due("5: none", x.rules(), 0);
    }

    private static void promise6Number() {
        CountedFinder x = new CountedFinder();
        for (int n = 1; n <= 3; n++) {
            x.begin(n);
            x.rule(1, 2, 3, 4, 5, 6, 7);
            x.rule(-1, -2, -3, -4, -5, -6, -77);
            for (int i = 0; i < 7; i++) {
                // Also those of variables that are not there, as they were told.
                due("6: first", x.number(0, i), i + 1);
                due("6: second", x.number(1, i), i == 6 ? -77 : -i - 1);
                due("6: no third", x.number(2, i), 0);
                due("6: none below", x.number(-1, i), 0);
                due("6: far", x.number(Integer.MAX_VALUE, i) + x.number(Integer.MIN_VALUE, i), 0);
            }
            due("6: no number", x.number(0, -1), 0);
            due("6: no number", x.number(0, 7), 0);
            due("6: no number", x.number(0, Integer.MAX_VALUE), 0);
            due("6: no number", x.number(0, Integer.MIN_VALUE), 0);
        }
    }

    private static void promise7Keeps() {
        CountedFinder x = new CountedFinder();
        x.begin(3);
        x.rule(1, 2, 3, 4, 5, 6, 10);
        due("7: just kept", x.keeps(1, 1, 1, 1, 0, 0), true);
        due("7: just not kept", x.keeps(2, 1, 1, 1, 0, 0), false);
        due("7: each counts", x.keeps(0, 0, 0, 0, 0, 2), false);
        due("7: each counts", x.keeps(11, 0, 0, 0, 0, 0), false);
        x.rule(0, 0, 0, 0, 0, -1, 0);
        due("7: the second rule", x.keeps(0, 0, 0, 0, 0, -1), false);
        due("7: both rules", x.keeps(0, 0, 0, 0, 0, 1), true);
        x.begin(2);
        x.rule(1, 1, 9, 1, 1, 9, 4);
        due("7: third of no matter", x.keeps(1, 1, 99, 1, 1, 99), true);
        due("7: second matters", x.keeps(1, 2, 0, 1, 1, 0), false);
        x.begin(1);
        x.rule(1, 9, 9, 1, 9, 9, 2);
        due("7: others of no matter", x.keeps(1, 99, 99, 1, 99, 99), true);
        due("7: first matters", x.keeps(1, 0, 0, 2, 0, 0), false);
        int most = Integer.MAX_VALUE;
        int least = Integer.MIN_VALUE;
        x.begin(3);
        x.rule(9, 9, 9, 9, 9, 9, 99);
        due("7: great sums", x.keeps(most, most, most, most, most, most), false);
        due("7: small sums", x.keeps(least, least, least, least, least, least), true);
        x.rule(-9, 9, -9, 9, -9, 9, 99);
        due("7: great differences", x.keeps(least, least, least, most, least, least), false);
        due("7: only the second", x.keeps(least, most, least, least, least, least), false);
    }

    private static void promise8HasTurn() {
        CountedFinder x = new CountedFinder();
        x.rule(2, 0, 0, 0, 0, 0, 1);
        x.rule(-2, 0, 0, 0, 0, 0, -1);
        due("8: a half is a turn", x.hasTurn(), true);
        x.rule(1, 0, 0, 0, 0, 0, 0);
        due("8: none", x.hasTurn(), false);
        x.begin(1);
        x.rule(0, 9, 9, 0, 9, 9, 0);
        due("8: 0 is 0 at most", x.hasTurn(), true);
        x.rule(0, 9, 9, 0, 9, 9, -1);
        due("8: 0 is not -1 at most", x.hasTurn(), false);
        x.begin(2);
        x.rule(0, 9, 9, 0, 9, 9, -1);
        due("8: with two variables it may be", x.hasTurn(), true);
        // Over a chain of rules, each of which alone leaves turns.
        x.begin(3);
        x.rule(1, -1, 0, 0, 0, 0, 0);
        x.rule(0, 1, -1, 0, 0, 0, 0);
        x.rule(0, 0, 1, -1, 0, 0, 0);
        x.rule(0, 0, 0, 1, -1, 0, 0);
        x.rule(0, 0, 0, 0, 1, -1, 0);
        x.rule(-9, 0, 0, 0, 0, 9, 0);
        due("8: all are the same", x.hasTurn(), true);
        x.rule(-1, 0, 0, 0, 0, 0, -99);
        x.rule(0, 0, 0, 0, 1, 0, 98);
        due("8: not below 99 and above 98", x.hasTurn(), false);
    }

    private static void promise9Ranked() {
        CountedFinder x = new CountedFinder();
        due("9: without rules", x.ranked(), false);
        x.rule(-1, 0, 0, 0, 0, 0, 99);
        due("9: bounded alone", x.ranked(), false);
        x.rule(-1, 0, 0, 1, 0, 0, 0);
        due("9: not rising alone", x.ranked(), false);
        x.rule(-9, 0, 0, 9, 0, 0, -1);
        due("9: falling by a ninth", x.ranked(), true);
        x.drop(0);
        due("9: falling alone", x.ranked(), false);
        x.begin(1);
        x.rule(1, 0, 0, 0, 0, 0, 5);
        x.rule(1, 0, 0, -1, 0, 0, -2);
        due("9: rising to a bound", x.ranked(), true);
        // x halves and is 1 or more: the fall is a half or more.
        x.begin(1);
        x.rule(-1, 0, 0, 0, 0, 0, -1);
        x.rule(-1, 0, 0, 2, 0, 0, 0);
        due("9: halving above 1", x.ranked(), true);
        x.drop(0);
        x.rule(-1, 0, 0, 0, 0, 0, 0);
        due("9: halving above 0", x.ranked(), false);
        // The bound is on y alone: x is bounded through the fall.
        x.begin(1);
        x.rule(0, 0, 0, -1, 0, 0, 0);
        x.rule(-1, 0, 0, 1, 0, 0, -1);
        due("9: bounded behind the turn", x.ranked(), true);
        x.begin(1);
        x.rule(0, 1, 1, 0, 1, 1, -1);
        due("9: no turn", x.ranked(), true);
        x.begin(2);
        x.rule(0, 1, 1, 0, 1, 1, -1);
        due("9: turns", x.ranked(), false);
    }

    private static void promise9RankedByMixtures() {
        CountedFinder x = new CountedFinder();
        // Neither variable is bounded, only 3 x0 + 7 x1; x0 falls by 7 or more, x1 rises by 2 at most.
        x.begin(2);
        x.rule(-3, -7, 0, 0, 0, 0, 0);
        x.rule(-1, 0, 0, 1, 0, 0, -7);
        x.rule(0, -1, 0, 0, 1, 0, 2);
        due("9: some mixture falls", x.ranked(), true);
        due("9: this one", x.ranks(3, 7, 0, 0), true);
        x.drop(2);
        x.rule(0, -1, 0, 0, 1, 0, 3);
        due("9: none falls", x.ranked(), false);
        x.begin(3);
        x.rule(-1, -1, -1, 0, 0, 0, 0);
        x.rule(-1, 0, 0, 1, 0, 0, 1);
        x.rule(0, -1, 0, 0, 1, 0, 1);
        x.rule(0, 0, -1, 0, 0, 1, -3);
        due("9: the third falls more", x.ranked(), true);
        x.drop(3);
        x.rule(0, 0, -1, 0, 0, 1, -2);
        due("9: the third falls as much", x.ranked(), false);
    }

    private static void promise10Ranks() {
        CountedFinder x = new CountedFinder();
        x.begin(2);
        x.rule(-2, 0, 0, 0, 0, 0, -1);
        x.rule(-3, 0, 0, 3, 0, 0, -1);
        due("10: falls by a third", x.ranks(1, 0, 0, 0), false);
        due("10: falls by two thirds", x.ranks(2, 0, 0, 0), false);
        due("10: falls by 1", x.ranks(3, 0, 0, 0), true);
        due("10: just 0 or more", x.ranks(4, 0, 0, -2), true);
        due("10: below 0", x.ranks(4, 0, 0, -3), false);
        due("10: one and a half", x.ranks(3, 0, 0, -1), true);
        due("10: one and a half", x.ranks(3, 0, 0, -2), false);
        due("10: the second counts", x.ranks(3, 1, 0, 0), false);
        due("10: the third does not", x.ranks(3, 0, 1, 0), true);
        due("10: wrong way", x.ranks(-3, 0, 0, 0), false);
        due("10: the greatest", x.ranks(999, 0, 0, 999), true);
        x.begin(1);
        due("10: no rules", x.ranks(0, 0, 0, 0), false);
        x.rule(-1, 0, 0, 1, 0, 0, -1);
        due("10: no bound", x.ranks(1, 0, 0, 999), false);
        x.begin(1);
        x.rule(-1, 0, 0, 0, 0, 0, 0);
        due("10: no fall", x.ranks(1, 0, 0, 999), false);
        x.begin(1);
        x.rule(0, 0, 0, 0, 0, 0, -1);
        due("10: no turn", x.ranks(-9, 8, -7, -6), true);
    }

    private static void promise10RanksLimits() {
        CountedFinder x = new CountedFinder();
        for (int n = 1; n <= 3; n++) {
            x.begin(n);
            x.rule(0, 0, 0, 0, 0, 0, -1);
            for (int i = 0; i < 4; i++) {
                due("10: the most", ranksWith(x, i, 999), true);
                due("10: the least", ranksWith(x, i, -999), true);
                due("10: too much", ranksWith(x, i, 1000), false);
                due("10: too little", ranksWith(x, i, -1000), false);
                for (int number : OUTSIDE_INT) {
                    due("10: far outside", ranksWith(x, i, number), false);
                }
            }
        }
    }

    private static boolean ranksWith(CountedFinder x, int i, int number) {
        int[] r = new int[4];
        r[i] = number;
        return x.ranks(r);
    }

    private static void promise11Least() {
        CountedFinder x = new CountedFinder();
        x.begin(2);
        x.rule(-3, 0, 0, 0, 0, 0, -1);
        x.rule(0, -1, 0, 0, 0, 0, 5);
        x.rule(1, 1, 0, -2, 0, 0, 0);
        leastDue(x, new int[] {1, 0, 0, 0, 0, 0}, 2, 1, 3);
        leastDue(x, new int[] {0, 1, 0, 0, 0, 0}, 2, -5, 1);
        leastDue(x, new int[] {0, 0, 0, 1, 0, 0}, 2, -7, 3);
        leastDue(x, new int[] {0, 0, 0, 0, 1, 0}, 1, 0, 0);
        leastDue(x, new int[] {0, 0, 0, 0, -1, 0}, 1, 0, 0);
        leastDue(x, new int[] {-1, 0, 0, 0, 0, 0}, 1, 0, 0);
        leastDue(x, new int[] {-1, 0, 0, 2, 0, 0}, 2, -5, 1);
        leastDue(x, new int[] {-1, 0, 0, 1, 0, 0}, 1, 0, 0);
        leastDue(x, new int[] {0, 0, 0, 0, 0, 0}, 2, 0, 1);
        leastDue(x, new int[] {0, 0, 99, 0, 0, -99}, 2, 0, 1);
        leastDue(x, new int[] {6, 2, 0, 0, 0, 0}, 2, -8, 1);
        x.rule(1, 0, 0, 0, 0, 0, 0);
        leastDue(x, new int[] {1, 0, 0, 0, 0, 0}, 0, 0, 0);
        leastDue(x, new int[] {0, 0, 0, 0, 1, 0}, 0, 0, 0);
        leastDue(x, new int[] {0, 0, 0, 0, 0, 0}, 0, 0, 0);
    }

    private static void leastDue(CountedFinder x, int[] p, int found, long top, long bottom) {
        String what = "11: least " + java.util.Arrays.toString(p);
        due(what, x.least(p), found);
        due(what + " top", x.top(), top);
        due(what + " bottom", x.bottom(), bottom);
    }

    private static void promise11LeastLimits() {
        CountedFinder x = new CountedFinder();
        for (int n = 1; n <= 3; n++) {
            x.begin(n);
            x.rule(-2, 0, 0, 0, 0, 0, 7);
            due("11: found before", x.least(1, 0, 0, 0, 0, 0), 2);
            for (int turns = 0; turns < 2; turns++) {
                for (int i = 0; i < 6; i++) {
                    due("11: too much", leastWith(x, i, 100), -1);
                    due("11: too little", leastWith(x, i, -100), -1);
                    for (int number : OUTSIDE_INT) {
                        due("11: far outside", leastWith(x, i, number), -1);
                    }
                    due("11: stays", x.top(), -7);
                    due("11: stays", x.bottom(), 2);
                }
                // Also of a loop without a turn.
                x.rule(0, 0, 0, 0, 0, 0, -1);
            }
            for (int i = 0; i < 6; i++) {
                due("11: the most", leastWith(x, i, 99), 0);
                due("11: the least", leastWith(x, i, -99), 0);
            }
        }
    }

    private static int leastWith(CountedFinder x, int i, int number) {
        int[] p = new int[6];
        p[i] = number;
        return x.least(p);
    }

    private static void promise12And13TopAndBottom() {
        for (int a = 1; a <= 9; a++) {
            for (int c = -99; c <= 99; c++) {
                CountedFinder x = new CountedFinder();
                x.rule(-a, 0, 0, 0, 0, 0, c);
                x.rule(0, 0, 0, a, 0, 0, c);
                int factor = commonFactor(a, Math.abs(c));
                x.least(1, 0, 0, 0, 0, 0);
                due("12: x of " + a + " " + c, x.top(), -c / factor);
                due("13: x of " + a + " " + c, x.bottom(), a / factor);
                x.least(0, 0, 0, -a, 0, 0);
                due("12: y of " + a + " " + c, x.top(), -c);
                due("13: y of " + a + " " + c, x.bottom(), 1);
            }
        }
    }

    private static int commonFactor(int a, int b) {
        return b == 0 ? a : commonFactor(b, a % b);
    }

    private static void promise12And13LatestLeast() {
        CountedFinder x = new CountedFinder();
        x.least(100, 0, 0, 0, 0, 0);
        due("12: refused is none", x.top(), 0);
        due("13: refused is none", x.bottom(), 0);
        x.rule(-3, 0, 0, 0, 0, 0, -2);
        x.least(1, 0, 0, 0, 0, 0);
        // What was found stays, whatever becomes of the loop, until least() looks again.
        x.rule(-1, 0, 0, 0, 0, 0, -5);
        topAndBottomDue(x, "rule");
        x.drop(0);
        topAndBottomDue(x, "drop");
        x.begin(2);
        topAndBottomDue(x, "begin");
        x.hasTurn();
        x.ranked();
        x.ranks(1, 2, 3, 4);
        x.keeps(1, 2, 3, 4, 5, 6);
        topAndBottomDue(x, "questions");
        x.least(1, 0, 0, 0, 0, 0);
        due("12: latest had no least", x.top(), 0);
        due("13: latest had no least", x.bottom(), 0);
        x.rule(-3, 0, 0, 0, 0, 0, -2);
        x.least(1, 0, 0, 0, 0, 0);
        topAndBottomDue(x, "again");
        x.rule(0, 0, 0, 0, 0, 0, -1);
        x.least(1, 0, 0, 0, 0, 0);
        due("12: latest had no turn", x.top(), 0);
        due("13: latest had no turn", x.bottom(), 0);
    }

    private static void topAndBottomDue(CountedFinder x, String behind) {
        due("12: top behind " + behind, x.top(), 2);
        due("13: bottom behind " + behind, x.bottom(), 3);
    }

    /** Signs with the greatest determinants, so that the program's own numbers are at their greatest. */
    private static void greatestNumbers() {
        int[][] signs = {
            {1, 1, 1, 1, 1, 1}, {1, -1, 1, 1, -1, -1}, {1, 1, -1, 1, 1, -1},
            {-1, 1, 1, -1, 1, 1}, {1, -1, -1, -1, 1, 1}, {1, 1, -1, -1, -1, 1},
            {-1, -1, 1, -1, 1, -1}, {-1, 1, -1, 1, 1, -1}};
        for (int flips = 0; flips < 256; flips++) {
            int[][] rules = new int[8][7];
            CountedFinder x = new CountedFinder();
            x.begin(3);
            for (int k = 0; k < 8; k++) {
                for (int i = 0; i < 6; i++) {
                    rules[k][i] = 9 * signs[k][i];
                }
                rules[k][6] = (flips >> k & 1) == 0 ? 99 : -99;
                int[] r = rules[k];
                x.rule(r);
            }
            Oracle oracle = new Oracle(3, rules);
            due("great: hasTurn", x.hasTurn(), oracle.hasTurn());
            due("great: ranked", x.ranked(), oracle.ranked());
            for (int goal = 0; goal < 64; goal++) {
                int[] p = new int[6];
                for (int i = 0; i < 6; i++) {
                    p[i] = (goal >> i & 1) == 0 ? 99 : -99;
                }
                java.math.BigInteger[] least = oracle.least(p);
                int found = !oracle.hasTurn() ? 0 : least == null ? 1 : 2;
                leastDue(x, p, found, found == 2 ? least[0].longValueExact() : 0,
                        found == 2 ? least[1].longValueExact() : 0);
            }
        }
    }

    private static void refusedCallsChangeNothing() {
        CountedFinder x = new CountedFinder();
        x.begin(2);
        x.rule(-3, 5, 7, 0, 0, -8, -2);
        x.rule(0, -5, 7, 0, 0, -8, 0);
        x.least(1, 0, 0, 0, 0, 0);
        x.begin(0);
        x.begin(4);
        x.rule(1, 2, 3, 4, 5, 10, 0);
        x.rule(1, 2, 3, 4, 5, 6, 100);
        x.drop(2);
        x.drop(-1);
        x.least(9, 9, 9, 9, 9, 100);
        x.ranks(1, 2, 3, 1000);
        int[][] told = {{-3, 5, 7, 0, 0, -8, -2}, {0, -5, 7, 0, 0, -8, 0}};
        due("refused: rules", x.rules(), 2);
        for (int k = 0; k < 2; k++) {
            for (int i = 0; i < 7; i++) {
                due("refused: number", x.number(k, i), told[k][i]);
            }
        }
        due("refused: top", x.top(), 2);
        due("refused: bottom", x.bottom(), 3);
        due("refused: two variables", x.least(0, -1, 0, 0, 0, 0), 1);
        due("refused: not three", x.least(0, 0, 1, 0, 0, 0), 2);
    }

    private static void questionsChangeNothing() {
        CountedFinder x = new CountedFinder();
        x.begin(2);
        x.rule(-1, 0, 0, 0, 0, 0, 0);
        x.rule(-1, 0, 0, 1, 0, 0, -1);
        for (int round = 0; round < 3; round++) {
            due("questions: ranked", x.ranked(), true);
            due("questions: hasTurn", x.hasTurn(), true);
            due("questions: ranks", x.ranks(1, 0, 0, 0), true);
            due("questions: does not rank", x.ranks(1, 1, 0, 0), false);
            due("questions: least", x.least(1, 0, 0, 0, 0, 0), 2);
            due("questions: no least", x.least(0, 1, 0, 0, 0, 0), 1);
            due("questions: rules", x.rules(), 2);
        }
    }

    private static void objectsAreApart() {
        CountedFinder x = new CountedFinder();
        CountedFinder y = new CountedFinder();
        x.begin(3);
        x.rule(-2, 0, 0, 0, 0, 0, 9);
        x.least(1, 0, 0, 0, 0, 0);
        due("apart: rules", y.rules(), 0);
        due("apart: top", y.top(), 0);
        due("apart: one variable", y.least(0, 1, 0, 0, 0, 0), 2);
        due("apart: top stays", x.top(), -9);
    }

    private static void due(String what, boolean got, boolean want) {
        due(what, got ? 1 : 0, want ? 1 : 0);
    }

    private static void due(String what, long got, long want) {
        if (got != want) {
            wrong++;
            System.out.println(what + " answered " + got + ", due is " + want);
        }
    }
}
