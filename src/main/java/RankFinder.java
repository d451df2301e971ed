import java.util.Arrays;

/**
 * Loops of up to three numbers, told by linear rules that each turn keeps.
 *
 * <p>Every question about all turns is asked by its other side (Farkas' lemma): a linear expression
 * is bounded below over the loop just when some sum of the rules, each taken with a weight of 0 or
 * more, says so. The class Weighing looks for such weights, exactly.
 */
public final class RankFinder {
    public static final int NONE = -1;

    private static final int MOST_VARIABLES = 3;
    private static final int MOST_RULES = 8;
    private static final int NUMBERS = 7;
    private static final int BOUND = 6;

    private static final int FACTOR_LIMIT = 9;
    private static final int BOUND_LIMIT = 99;
    private static final int GOAL_LIMIT = 99;
    private static final int FUNCTION_LIMIT = 999;

    private static final int NO_TURN = 0;
    private static final int NO_LEAST = 1;
    private static final int FOUND = 2;

    private final int[][] told = new int[MOST_RULES][NUMBERS];
    private final int[] goal = new int[2 * MOST_VARIABLES];
    private final Weighing weighing = new Weighing();
    private int variables = 1;
    private int count = 0;
    private long foundTop = 0;
    private long foundBottom = 0;

    public RankFinder() {
    }

    public boolean begin(int n) {
        if (n < 1 || n > MOST_VARIABLES) {
            return false;
        }
        variables = n;
        count = 0;
        return true;
    }

    public int rule(int a0, int a1, int a2, int b0, int b1, int b2, int c) {
        if (count >= MOST_RULES
                || !areWithin(a0, a1, a2, FACTOR_LIMIT)
                || !areWithin(b0, b1, b2, FACTOR_LIMIT)
                || !isWithin(c, BOUND_LIMIT)) {
            return NONE;
        }
        int[] added = told[count];
        fill(added, 0, a0, a1, a2);
        fill(added, MOST_VARIABLES, b0, b1, b2);
        added[BOUND] = c;
        count++;
        return count - 1;
    }

    public boolean drop(int k) {
        if (!isRule(k)) {
            return false;
        }
        for (int i = k + 1; i < count; i++) {
            System.arraycopy(told[i], 0, told[i - 1], 0, NUMBERS);
        }
        count--;
        return true;
    }

    public int rules() {
        return count;
    }

    public int number(int k, int i) {
        if (!isRule(k) || i < 0 || i >= NUMBERS) {
            return 0;
        }
        return told[k][i];
    }

    public boolean keeps(int x0, int x1, int x2, int y0, int y1, int y2) {
        for (int k = 0; k < count; k++) {
            long made = partOf(k, 0, x0, x1, x2) + partOf(k, MOST_VARIABLES, y0, y1, y2);
            if (made > told[k][BOUND]) {
                return false;
            }
        }
        return true;
    }

    public boolean hasTurn() {
        Arrays.fill(goal, 0);
        return seekLeast() != NO_TURN;
    }

    public boolean ranked() {
        weighRanking();
        return weighing.fallsForEver();
    }

    public boolean ranks(int r0, int r1, int r2, int s) {
        if (!areWithin(r0, r1, r2, FUNCTION_LIMIT) || !isWithin(s, FUNCTION_LIMIT)) {
            return false;
        }
        fill(goal, 0, r0, r1, r2);
        fill(goal, MOST_VARIABLES, 0, 0, 0);
        int before = seekLeast();
        if (before == NO_TURN) {
            return true;
        }
        if (before == NO_LEAST || weighing.leastTop() + s * weighing.leastBottom() < 0) {
            return false;
        }
        fill(goal, MOST_VARIABLES, -r0, -r1, -r2);
        return seekLeast() == FOUND && weighing.leastTop() >= weighing.leastBottom();
    }

    public int least(int p0, int p1, int p2, int q0, int q1, int q2) {
        if (!areWithin(p0, p1, p2, GOAL_LIMIT) || !areWithin(q0, q1, q2, GOAL_LIMIT)) {
            return NONE;
        }
        fill(goal, 0, p0, p1, p2);
        fill(goal, MOST_VARIABLES, q0, q1, q2);
        int found = seekLeast();
        foundTop = 0;
        foundBottom = 0;
        if (found == FOUND) {
            long factor = commonFactor(weighing.leastTop(), weighing.leastBottom());
            foundTop = weighing.leastTop() / factor;
            foundBottom = weighing.leastBottom() / factor;
        }
        return found;
    }

    public long top() {
        return foundTop;
    }

    public long bottom() {
        return foundBottom;
    }

    private boolean isRule(int k) {
        return k >= 0 && k < count;
    }

    private static boolean isWithin(int number, int limit) {
        return number >= -limit && number <= limit;
    }

    private static boolean areWithin(int first, int second, int third, int limit) {
        return isWithin(first, limit) && isWithin(second, limit) && isWithin(third, limit);
    }

    private static void fill(int[] row, int from, int first, int second, int third) {
        row[from] = first;
        row[from + 1] = second;
        row[from + 2] = third;
    }

    /** What a rule's a (from 0) or b (from 3) make of values; in long, as the values are any int. */
    private long partOf(int k, int from, long first, long second, long third) {
        int[] row = told[k];
        long made = row[from] * first;
        if (variables > 1) {
            made += row[from + 1] * second;
        }
        if (variables > 2) {
            made += row[from + 2] * third;
        }
        return made;
    }

    /** Looks for the least of the goal over the loop; the weighing then has its value. */
    private int seekLeast() {
        weighGoal();
        if (weighing.fallsForEver()) {
            return NO_TURN;
        }
        return weighing.reachesRightSides() ? FOUND : NO_LEAST;
    }

    /**
     * One weight a rule. The weighed rules add up to the goal taken negatively, so their bound taken
     * negatively is one below the goal, and the cheapest weights tell the best such bound.
     */
    private void weighGoal() {
        weighing.clear(2 * variables, count);
        for (int i = 0; i < variables; i++) {
            int behind = variables + i;
            for (int k = 0; k < count; k++) {
                weighing.put(i, k, told[k][i]);
                weighing.put(behind, k, told[k][MOST_VARIABLES + i]);
            }
            weighing.putRightSide(i, -goal[i]);
            weighing.putRightSide(behind, -goal[MOST_VARIABLES + i]);
        }
        for (int k = 0; k < count; k++) {
            weighing.putCost(k, told[k][BOUND]);
        }
    }

    /**
     * Two weights a rule: u shows that a function r is bounded below before each turn, v that a turn
     * makes it less. So u a = -r, u b = 0, v a = -r, v b = r, with r left out here; the fall is some
     * amount above 0, and by a greater r 1 or more, just when v c is below 0. An empty loop has such
     * weights with r = 0, so that it needs no care of its own.
     */
    private void weighRanking() {
        weighing.clear(3 * variables, 2 * count);
        for (int i = 0; i < variables; i++) {
            int same = variables + i;
            int fall = 2 * variables + i;
            for (int k = 0; k < count; k++) {
                int a = told[k][i];
                int b = told[k][MOST_VARIABLES + i];
                weighing.put(i, k, b);
                weighing.put(same, k, -a);
                weighing.put(same, count + k, a);
                weighing.put(fall, count + k, a + b);
            }
        }
        for (int k = 0; k < count; k++) {
            weighing.putCost(count + k, told[k][BOUND]);
        }
    }

    /** The greatest common factor, 1 at least; Euclid's steps on two longs are fewer than 100. */
    private static long commonFactor(long first, long second) {
        long larger = Math.abs(first);
        long smaller = Math.abs(second);
        for (int step = 0; step < 1000 && smaller != 0; step++) {
            long rest = larger % smaller;
            larger = smaller;
            smaller = rest;
        }
        return Math.max(larger, 1);
    }

    /**
     * A simplex table for weights of 0 or more that meet equations at the least cost.
     *
     * <p>All cells are whole numbers over one common denominator, the unit. They are minors of the
     * table as it was put, so each fits a long: with 9 equations of the ranking and its cost they
     * stay below 2 to the 54th. Their products do not fit and are taken in 128 bits.
     */
    private static final class Weighing {
        private static final int MOST_EQUATIONS = 3 * MOST_VARIABLES;
        private static final int MOST_WEIGHTS = 2 * MOST_RULES;
        private static final long LOW_HALF = 0xFFFFFFFFL;
        private static final long SIGN_BIT = 1L << 63;

        // By Bland's rule no set of held columns comes twice, and there are 12,870 at most.
        private static final int MOST_STEPS = 1000000;

        private final long[][] cell = new long[MOST_EQUATIONS + 1][MOST_WEIGHTS + 1];
        private final int[] held = new int[MOST_EQUATIONS];
        private int equations = 0;
        private int weights = 0;
        private long unit = 1;
        private int unitTwos = 0;
        private long unitInverse = 1;

        Weighing() {
        }

        /** Makes a table of zeros; its last row is the cost, its last column the right sides. */
        void clear(int newEquations, int newWeights) {
            equations = Math.min(newEquations, MOST_EQUATIONS);
            weights = Math.min(newWeights, MOST_WEIGHTS);
            for (int row = 0; row <= equations; row++) {
                Arrays.fill(cell[row], 0);
            }
            Arrays.fill(held, NONE);
            takeUnit(1);
        }

        void put(int equation, int weight, int value) {
            cell[equation][weight] = value;
        }

        void putRightSide(int equation, int value) {
            cell[equation][weights] = value;
        }

        void putCost(int weight, int value) {
            cell[equations][weight] = value;
        }

        /** The least cost taken negatively, which is the corner of the table, over leastBottom(). */
        long leastTop() {
            return cell[equations][weights];
        }

        long leastBottom() {
            return unit;
        }

        /**
         * Whether the cost falls for ever over the weights that make all equations 0. The right sides
         * are carried along and not looked at: with 0 there, any columns may be held.
         */
        boolean fallsForEver() {
            holdColumns();
            for (int step = 0; step < MOST_STEPS; step++) {
                int column = columnThatSaves();
                if (column == NONE) {
                    return false;
                }
                int row = rowThatLimits(column);
                if (row == NONE) {
                    return true;
                }
                exchange(row, column);
            }
            return false;
        }

        /**
         * Whether some weights meet the right sides, and then goes to the cheapest such. Only behind
         * fallsForEver() that answered false: no cost is below 0 then, and none gets so here.
         */
        boolean reachesRightSides() {
            if (hasBareContradiction()) {
                return false;
            }
            for (int step = 0; step < MOST_STEPS; step++) {
                int row = rowBelowZero();
                if (row == NONE) {
                    return true;
                }
                int column = columnThatLifts(row);
                if (column == NONE) {
                    return false;
                }
                exchange(row, column);
            }
            return false;
        }

        /** Gives each equation a column to hold; one that follows from the others gets none. */
        private void holdColumns() {
            for (int row = 0; row < equations; row++) {
                int column = firstColumnOf(row);
                if (column != NONE) {
                    exchange(row, column);
                }
            }
        }

        private int firstColumnOf(int row) {
            for (int column = 0; column < weights; column++) {
                if (cell[row][column] != 0) {
                    return column;
                }
            }
            return NONE;
        }

        private boolean hasBareContradiction() {
            for (int row = 0; row < equations; row++) {
                if (held[row] == NONE && cell[row][weights] != 0) {
                    return true;
                }
            }
            return false;
        }

        // The four choices below take the least column where several are as good: Bland's rule,
        // without which the steps could go round.

        private int columnThatSaves() {
            for (int column = 0; column < weights; column++) {
                if (cell[equations][column] < 0) {
                    return column;
                }
            }
            return NONE;
        }

        private int rowThatLimits(int column) {
            int best = NONE;
            for (int row = 0; row < equations; row++) {
                if (cell[row][column] > 0 && holdsLess(row, best)) {
                    best = row;
                }
            }
            return best;
        }

        private int rowBelowZero() {
            int best = NONE;
            for (int row = 0; row < equations; row++) {
                if (cell[row][weights] < 0 && holdsLess(row, best)) {
                    best = row;
                }
            }
            return best;
        }

        private boolean holdsLess(int row, int best) {
            return held[row] != NONE && (best == NONE || held[row] < held[best]);
        }

        private int columnThatLifts(int row) {
            int best = NONE;
            for (int column = 0; column < weights; column++) {
                if (cell[row][column] < 0 && (best == NONE || isCheaper(row, column, best))) {
                    best = column;
                }
            }
            return best;
        }

        /**
         * Whether a column's cost for lifting the row is less than another's. Here are 6 equations at
         * most: costs are below 31 * 10^9 and cells below 86 * 10^6, so the products fit a long.
         */
        private boolean isCheaper(int row, int column, int other) {
            long[] cost = cell[equations];
            return cost[column] * cell[row][other] > cost[other] * cell[row][column];
        }

        /** Makes the row hold the column, whose cell in it is not 0, and clears it in the others. */
        private void exchange(int row, int column) {
            if (cell[row][column] < 0) {
                negate(row);
            }
            long[] source = cell[row];
            for (int other = 0; other <= equations; other++) {
                if (other != row) {
                    long[] changed = cell[other];
                    long share = changed[column];
                    for (int j = 0; j <= weights; j++) {
                        changed[j] =
                                differenceByUnit(source[column], changed[j], share, source[j]);
                    }
                }
            }
            held[row] = column;
            takeUnit(source[column]);
        }

        private void negate(int row) {
            for (int column = 0; column <= weights; column++) {
                cell[row][column] = -cell[row][column];
            }
        }

        /** Notes the unit's twos and the inverse, modulo 2 to the 64th, of what is odd in it. */
        private void takeUnit(long newUnit) {
            unit = newUnit;
            unitTwos = Long.bitCount((newUnit & -newUnit) - 1);
            long odd = newUnit >> unitTwos;
            long inverse = odd;
            // 3 bits are right at first, and each round makes twice as many right.
            for (int round = 0; round < 5; round++) {
                inverse *= 2 - odd * inverse;
            }
            unitInverse = inverse;
        }

        /**
         * (a b - c d) / unit, which is known to be whole and to fit a long: so the twos are shifted
         * out of the 128 bits, and of the rest the low 64 times the odd part's inverse are enough.
         */
        private long differenceByUnit(long a, long b, long c, long d) {
            long first = a * b;
            long second = c * d;
            long low = first - second;
            long high = highProduct(a, b) - highProduct(c, d);
            // The low halves have no sign of their own; by this bit they compare as if they had.
            if (first + SIGN_BIT < second + SIGN_BIT) {
                high--;
            }
            // Two shifts, as one by 64 would shift by nothing.
            long shifted = (low >>> unitTwos) | ((high << 1) << (63 - unitTwos));
            return shifted * unitInverse;
        }

        /** The upper 64 bits of the product of two longs. */
        private static long highProduct(long a, long b) {
            long aHigh = a >> 32;
            long aLow = a & LOW_HALF;
            long bHigh = b >> 32;
            long bLow = b & LOW_HALF;
            long middle = aHigh * bLow + ((aLow * bLow) >>> 32);
            long other = aLow * bHigh + (middle & LOW_HALF);
            return aHigh * bHigh + (middle >> 32) + (other >> 32);
        }
    }
}
