import java.util.Arrays;
import java.util.function.Predicate;

/** What the tests of the document's sentences share; each sentence that names a boundary case has its own. */
abstract class Sentences {
    static final int MOST = Integer.MAX_VALUE;
    static final int LEAST = Integer.MIN_VALUE;
    static final int[] NO_FACTORS = new int[6];

    private static final int MOST_SHOWN = 50;
    private static String sentence = "";
    private static int sentences = 0;
    private static int wrong = 0;

    static void test(String name, Runnable body) {
        sentence = name;
        sentences++;
        int before = wrong;
        body.run();
        if (wrong > before) {
            System.out.println("does not hold: " + name);
        }
    }

    static void hold(String what, boolean holds) {
        due(what, holds, true);
    }

    static void due(String what, boolean got, boolean want) {
        due(what, got ? 1 : 0, want ? 1 : 0);
    }

    static void due(String what, long got, long want) {
        if (got != want) {
            wrong++;
            if (wrong <= MOST_SHOWN) {
                System.out.println(sentence + ": " + what + " answered " + got + ", due is " + want);
            }
        }
    }

    static void finish() {
        System.out.println(wrong == 0 ? "all " + sentences + " sentences hold" : wrong + " answers are not as due");
        System.exit(wrong == 0 ? 0 : 1);
    }

    static void stateDue(CountedFinder x, State state) {
        due(state + " rules()", x.rules(), state.rules);
        due(state + " top()", x.top(), state.top);
        due(state + " bottom()", x.bottom(), state.bottom);
    }

    /** The answers of the other calls before and behind the call, and of an object without it. */
    static void refused(State state, String call, Predicate<CountedFinder> isRefused) {
        CountedFinder x = state.made();
        stateDue(x, state);
        String before = Answers.ofQuestions(x);
        hold(state + " " + call + " is refused", isRefused.test(x));
        stateDue(x, state);
        hold(state + " " + call + " changes no answer", before.equals(Answers.ofQuestions(x)));
        hold(state + " " + call + " changes nothing for later calls",
                Answers.ofGoingOn(x).equals(Answers.ofGoingOn(state.made())));
    }

    static int[] outside(int limit) {
        return new int[] {limit + 1, -limit - 1, limit + 2, 1 << 16, 1 << 30, MOST, LEAST, LEAST + 1};
    }

    static int[] with(int length, int i, int number) {
        int[] row = new int[length];
        row[i] = number;
        return row;
    }

    static void leastDue(CountedFinder x, int found, long top, long bottom, int... goal) {
        String what = "least" + Arrays.toString(goal);
        due(what, x.least(goal), found);
        due(what + " top()", x.top(), top);
        due(what + " bottom()", x.bottom(), bottom);
    }

    static long commonFactor(long a, long b) {
        return b == 0 ? Math.abs(a) : commonFactor(b, a % b);
    }
}
