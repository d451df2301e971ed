import java.math.BigInteger;
import java.util.ArrayList;
import java.util.List;

/**
 * Answers the document's questions in another way than the program: from the corner points, rays and
 * lines of the turns, found by trying all sets of rules, in numbers of any size.
 */
final class Oracle {
    private final int variables;
    private final Corners turns;

    Oracle(int variables, int[][] rules) {
        this.variables = variables;
        BigInteger[][] left = new BigInteger[rules.length][];
        BigInteger[] right = new BigInteger[rules.length];
        for (int k = 0; k < rules.length; k++) {
            left[k] = pick(rules[k]);
            right[k] = BigInteger.valueOf(rules[k][6]);
        }
        turns = new Corners(left, right, 2 * variables);
    }

    boolean hasTurn() {
        return !turns.points.isEmpty();
    }

    /** Null when there is no least of a loop with turns; else numerator and denominator. */
    BigInteger[] least(int[] goal) {
        return turns.least(pick(goal));
    }

    boolean ranks(int[] r, int s) {
        if (!hasTurn()) {
            return true;
        }
        BigInteger[] before = least(new int[] {r[0], r[1], r[2], 0, 0, 0});
        BigInteger[] fall = least(new int[] {r[0], r[1], r[2], -r[0], -r[1], -r[2]});
        return before != null && fall != null
                && before[0].add(before[1].multiply(BigInteger.valueOf(s))).signum() >= 0
                && fall[0].compareTo(fall[1]) >= 0;
    }

    /**
     * The functions that are not below on any ray and do not rise make a cone; the sum of its own
     * rays lies in its inside, so it falls at all points if any function of the cone does.
     */
    boolean ranked() {
        if (!hasTurn()) {
            return true;
        }
        List<BigInteger[]> atMostZero = new ArrayList<>();
        List<BigInteger[]> falls = new ArrayList<>();
        for (BigInteger[] ray : turns.raysAndLinesBothWays()) {
            Corners.addOnce(atMostZero, before(ray, -1));
            Corners.addOnce(atMostZero, fall(ray, -1));
        }
        for (BigInteger[] point : turns.points) {
            Corners.addOnce(atMostZero, fall(point, -1));
            falls.add(fall(point, 1));
        }
        BigInteger[] zeros = Corners.zeros(atMostZero.size());
        Corners cone = new Corners(atMostZero.toArray(new BigInteger[0][]), zeros, variables);
        BigInteger[] inside = Corners.zeros(variables);
        for (BigInteger[] ray : cone.rays) {
            for (int i = 0; i < variables; i++) {
                inside[i] = inside[i].add(ray[i]);
            }
        }
        for (BigInteger[] fall : falls) {
            if (Corners.product(inside, fall).signum() <= 0) {
                return false;
            }
        }
        return true;
    }

    private BigInteger[] before(BigInteger[] turn, int sign) {
        BigInteger[] made = new BigInteger[variables];
        for (int i = 0; i < variables; i++) {
            made[i] = turn[i].multiply(BigInteger.valueOf(sign));
        }
        Corners.shorten(made);
        return made;
    }

    private BigInteger[] fall(BigInteger[] turn, int sign) {
        BigInteger[] made = new BigInteger[variables];
        for (int i = 0; i < variables; i++) {
            made[i] = turn[i].subtract(turn[variables + i]).multiply(BigInteger.valueOf(sign));
        }
        Corners.shorten(made);
        return made;
    }

    private BigInteger[] pick(int[] numbers) {
        BigInteger[] made = new BigInteger[2 * variables];
        for (int i = 0; i < variables; i++) {
            made[i] = BigInteger.valueOf(numbers[i]);
            made[variables + i] = BigInteger.valueOf(numbers[3 + i]);
        }
        return made;
    }

    /** All z with left z <= right, as points, rays and lines; a point has its denominator behind. */
    private static final class Corners {
        final List<BigInteger[]> points = new ArrayList<>();
        final List<BigInteger[]> rays = new ArrayList<>();
        final List<BigInteger[]> lines;
        private final BigInteger[][] left;
        private final BigInteger[] right;
        private final int size;

        Corners(BigInteger[][] left, BigInteger[] right, int size) {
            this.left = left;
            this.right = right;
            this.size = size;
            lines = nullSpace(left, size);
            int rank = size - lines.size();
            if (isCone()) {
                points.add(origin());
            } else {
                choose(new ArrayList<>(), 0, rank);
            }
            if (rank > 0) {
                choose(new ArrayList<>(), 0, rank - 1);
            }
        }

        static BigInteger[] zeros(int length) {
            BigInteger[] made = new BigInteger[length];
            java.util.Arrays.fill(made, BigInteger.ZERO);
            return made;
        }

        static BigInteger product(BigInteger[] first, BigInteger[] second) {
            BigInteger sum = BigInteger.ZERO;
            for (int i = 0; i < Math.min(first.length, second.length); i++) {
                sum = sum.add(first[i].multiply(second[i]));
            }
            return sum;
        }

        List<BigInteger[]> raysAndLinesBothWays() {
            List<BigInteger[]> made = new ArrayList<>(rays);
            for (BigInteger[] line : lines) {
                made.add(line);
                made.add(negative(line));
            }
            return made;
        }

        BigInteger[] least(BigInteger[] goal) {
            for (BigInteger[] ray : raysAndLinesBothWays()) {
                if (product(goal, ray).signum() < 0) {
                    return null;
                }
            }
            BigInteger[] best = null;
            for (BigInteger[] point : points) {
                BigInteger top = product(goal, point);
                BigInteger bottom = point[size];
                if (best == null || top.multiply(best[1]).compareTo(best[0].multiply(bottom)) < 0) {
                    best = new BigInteger[] {top, bottom};
                }
            }
            if (best == null) {
                return null;
            }
            BigInteger factor = best[0].gcd(best[1]);
            return new BigInteger[] {best[0].divide(factor), best[1].divide(factor)};
        }

        private boolean isCone() {
            for (BigInteger bound : right) {
                if (bound.signum() != 0) {
                    return false;
                }
            }
            return true;
        }

        private BigInteger[] origin() {
            BigInteger[] made = zeros(size + 1);
            made[size] = BigInteger.ONE;
            return made;
        }

        private void choose(List<Integer> chosen, int from, int wanted) {
            if (chosen.size() == wanted) {
                look(chosen);
                return;
            }
            for (int k = from; k < left.length; k++) {
                chosen.add(k);
                choose(chosen, k + 1, wanted);
                chosen.remove(chosen.size() - 1);
            }
        }

        /** The chosen rows and all lines as equations leave a point, a ray, or are not independent. */
        private void look(List<Integer> chosen) {
            int rank = size - lines.size();
            boolean forPoint = chosen.size() == rank;
            BigInteger[][] rows = new BigInteger[chosen.size() + lines.size()][];
            for (int i = 0; i < rows.length; i++) {
                boolean isLine = i >= chosen.size();
                BigInteger[] row = isLine ? lines.get(i - chosen.size()) : left[chosen.get(i)];
                rows[i] = java.util.Arrays.copyOf(row, size + 1);
                rows[i][size] = isLine || !forPoint ? BigInteger.ZERO : right[chosen.get(i)].negate();
            }
            List<BigInteger[]> space = nullSpace(rows, forPoint ? size + 1 : size);
            if (space.size() != 1) {
                return;
            }
            BigInteger[] found = space.get(0);
            if (forPoint) {
                addPoint(found);
            } else {
                addRay(found);
                addRay(negative(found));
            }
        }

        private void addPoint(BigInteger[] found) {
            if (found[size].signum() == 0) {
                return;
            }
            BigInteger[] point = found[size].signum() < 0 ? negative(found) : found;
            for (int k = 0; k < left.length; k++) {
                if (product(left[k], point).compareTo(right[k].multiply(point[size])) > 0) {
                    return;
                }
            }
            addOnce(points, point);
        }

        private void addRay(BigInteger[] ray) {
            for (BigInteger[] row : left) {
                if (product(row, ray).signum() > 0) {
                    return;
                }
            }
            addOnce(rays, ray);
        }

        private static void addOnce(List<BigInteger[]> list, BigInteger[] row) {
            for (BigInteger[] other : list) {
                if (java.util.Arrays.equals(other, row)) {
                    return;
                }
            }
            list.add(row);
        }

        private static BigInteger[] negative(BigInteger[] row) {
            BigInteger[] made = new BigInteger[row.length];
            for (int i = 0; i < row.length; i++) {
                made[i] = row[i].negate();
            }
            return made;
        }

        /** A basis, in whole numbers, of what all rows make 0. */
        private static List<BigInteger[]> nullSpace(BigInteger[][] given, int size) {
            BigInteger[][] rows = new BigInteger[given.length][];
            for (int i = 0; i < given.length; i++) {
                rows[i] = java.util.Arrays.copyOf(given[i], size);
            }
            int[] rowOf = new int[size];
            int used = 0;
            for (int column = 0; column < size; column++) {
                rowOf[column] = -1;
                int pivot = used;
                while (pivot < rows.length && rows[pivot][column].signum() == 0) {
                    pivot++;
                }
                if (pivot < rows.length) {
                    BigInteger[] row = rows[pivot];
                    rows[pivot] = rows[used];
                    rows[used] = row;
                    eliminate(rows, used, column);
                    rowOf[column] = used;
                    used++;
                }
            }
            List<BigInteger[]> basis = new ArrayList<>();
            for (int column = 0; column < size; column++) {
                if (rowOf[column] < 0) {
                    basis.add(direction(rows, rowOf, column));
                }
            }
            return basis;
        }

        private static void eliminate(BigInteger[][] rows, int used, int column) {
            BigInteger pivot = rows[used][column];
            for (int i = 0; i < rows.length; i++) {
                BigInteger share = rows[i][column];
                if (i != used && share.signum() != 0) {
                    for (int j = 0; j < rows[i].length; j++) {
                        rows[i][j] = rows[i][j].multiply(pivot).subtract(rows[used][j].multiply(share));
                    }
                    shorten(rows[i]);
                }
            }
        }

        private static BigInteger[] direction(BigInteger[][] rows, int[] rowOf, int free) {
            BigInteger common = BigInteger.ONE;
            for (int column = 0; column < rowOf.length; column++) {
                if (rowOf[column] >= 0) {
                    common = common.multiply(rows[rowOf[column]][column]).abs();
                }
            }
            BigInteger[] made = zeros(rowOf.length);
            made[free] = common;
            for (int column = 0; column < rowOf.length; column++) {
                if (rowOf[column] >= 0) {
                    BigInteger[] row = rows[rowOf[column]];
                    made[column] = row[free].negate().multiply(common).divide(row[column]);
                }
            }
            shorten(made);
            return made;
        }

        private static void shorten(BigInteger[] row) {
            BigInteger factor = BigInteger.ZERO;
            for (BigInteger number : row) {
                factor = factor.gcd(number);
            }
            if (factor.compareTo(BigInteger.ONE) > 0) {
                for (int i = 0; i < row.length; i++) {
                    row[i] = row[i].divide(factor);
                }
            }
        }
    }
}
