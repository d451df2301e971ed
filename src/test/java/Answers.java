/** What an object answers, as a text: two objects in the same state have the same. */
final class Answers {
    private static final int[][] VALUES = {
        {0, 0, 0, 0, 0, 0}, {1, 0, 0, 0, 0, 0}, {0, 1, 0, 0, 0, 0}, {0, 0, 9, 0, 0, 9},
        {-9, 0, 0, -9, 0, 0}, {5, -50, 5, 4, -50, 4}, {-1, -8, 1, -1, 2, -10}, {0, 0, -999, 0, 0, 999}};
    private static final int[][] FUNCTIONS = {
        {0, 0, 0, 0}, {1, 0, 0, 0}, {3, 0, 0, 11}, {3, 0, 0, 10}, {0, 1, 0, 0}, {-1, 2, -3, 99}};

    private Answers() {
    }

    /** The questions that change nothing. */
    static String ofQuestions(CountedFinder x) {
        StringBuilder text = new StringBuilder("rules " + x.rules());
        for (int k = 0; k < 9; k++) {
            for (int i = 0; i < 7; i++) {
                text.append(' ').append(x.number(k, i));
            }
        }
        for (int[] values : VALUES) {
            text.append(" keeps ").append(x.keeps(values));
        }
        text.append(" hasTurn ").append(x.hasTurn()).append(" ranked ").append(x.ranked());
        for (int[] function : FUNCTIONS) {
            text.append(" ranks ").append(x.ranks(function));
        }
        return text + " found " + x.top() + "/" + x.bottom();
    }

    /** What the calls that change something answer, and what then is there. */
    static String ofGoingOn(CountedFinder x) {
        StringBuilder text = new StringBuilder();
        for (int i = 0; i < 6; i++) {
            for (int sign = -1; sign <= 1; sign += 2) {
                int[] goal = new int[6];
                goal[i] = sign;
                text.append(" least ").append(x.least(goal));
                text.append(" is ").append(x.top()).append('/').append(x.bottom());
            }
        }
        text.append(" rule ").append(x.rule(-7, 6, -5, 4, -3, 2, 51)).append(' ').append(x.rules());
        text.append(" drop ").append(x.drop(1)).append(' ').append(x.drop(7));
        text.append(" rule ").append(x.rule(1, 1, 1, 1, 1, 1, 1)).append(' ');
        return text + ofQuestions(x) + " begin " + x.begin(2) + " " + x.rules();
    }
}
