import java.util.function.Consumer;

/** Objects with a past, in which calls are refused: how many rules, and what was looked for. */
enum State {
    NEW(1, 0, 0, 0, x -> { }),
    TWO_WITHOUT_RULES(2, 0, 0, 0, x -> x.begin(2)),
    ONE_WITH_A_LEAST(1, 2, -7, 2, State::tellTwoRules),
    TWO_WITHOUT_A_LEAST(2, 3, 0, 0, x -> {
        x.begin(2);
        x.rule(-1, 0, 9, 0, 0, 9, 0);
        x.rule(0, -1, 0, 0, 0, 0, 0);
        x.rule(-1, 0, 0, 1, 0, 0, -1);
        x.least(0, 0, 0, 0, 1, 0);
    }),
    TWO_WITHOUT_A_TURN(2, 2, 0, 0, x -> {
        x.begin(2);
        x.rule(1, 1, 0, 0, 0, 0, -1);
        x.rule(-1, -1, 0, 0, 0, 0, 0);
        x.least(1, 0, 0, 0, 0, 0);
    }),
    THREE_WITH_SEVEN_RULES(3, 7, -588093, 877, x -> {
        x.begin(3);
        tellOfGreatRules(x, 7);
        x.least(1, 2, 3, 4, 5, 6);
    }),
    THREE_FULL(3, 8, -36816, 73, x -> {
        x.begin(3);
        tellOfGreatRules(x, 8);
        x.least(1, 2, 3, 4, 5, 6);
    }),
    ONE_FULL(1, 8, -17, 8, x -> {
        for (int k = 0; k < 8; k++) {
            x.rule(-k - 1, k, -k, 0, k, 9, 10 + k);
        }
        x.least(1, 0, 0, 0, 0, 0);
    }),
    TWO_FULL_BEFORE_A_LEAST(2, 8, 0, 0, x -> {
        x.begin(2);
        tellOfGreatRules(x, 8);
    }),
    NO_MORE_FULL(3, 7, -36816, 73, x -> {
        x.begin(3);
        tellOfGreatRules(x, 8);
        x.least(1, 2, 3, 4, 5, 6);
        x.drop(0);
    }),
    BEGUN_AGAIN(3, 0, -7, 2, x -> {
        tellTwoRules(x);
        x.begin(3);
    });

    final int variables;
    final int rules;
    final long top;
    final long bottom;
    private final Consumer<CountedFinder> past;

    State(int variables, int rules, long top, long bottom, Consumer<CountedFinder> past) {
        this.variables = variables;
        this.rules = rules;
        this.top = top;
        this.bottom = bottom;
        this.past = past;
    }

    CountedFinder made() {
        CountedFinder x = new CountedFinder();
        past.accept(x);
        return x;
    }

    boolean isFull() {
        return rules == 8;
    }

    private static void tellTwoRules(CountedFinder x) {
        x.rule(-2, 5, -5, 0, 4, -4, 7);
        x.rule(-3, 0, 0, 3, 0, 0, -1);
        x.least(1, 0, 0, 0, 0, 0);
    }

    static void tellOfGreatRules(CountedFinder x, int count) {
        int[][] rules = {
            {3, -2, 7, 1, -9, 4, 50}, {-5, 3, 1, -1, 2, 2, -7}, {2, 2, -9, 4, 4, 1, 33},
            {-1, -1, -1, -1, -1, -1, 99}, {9, 0, 0, -9, 0, 0, 0}, {0, 7, 0, 0, -3, 5, 12},
            {1, -8, 3, 2, 0, -6, 1}, {-2, 5, -4, 3, 7, -1, 20}};
        for (int k = 0; k < count; k++) {
            x.rule(rules[k]);
        }
    }
}
