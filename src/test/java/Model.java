import java.math.BigInteger;
import java.util.ArrayList;
import java.util.Arrays;
import java.util.List;

/** The document's promises written down as plainly as they stand, with Oracle for all that is hard. */
final class Model {
    private int variables = 1;
    private final List<int[]> rules = new ArrayList<>();
    private Oracle oracle = null;
    private long top = 0;
    private long bottom = 0;

    boolean begin(int n) {
        if (n != 1 && n != 2 && n != 3) {
            return false;
        }
        variables = n;
        rules.clear();
        oracle = null;
        return true;
    }

    int rule(int... r) {
        if (rules.size() == 8 || !areAll(Arrays.copyOf(r, 6), 9) || !areAll(new int[] {r[6]}, 99)) {
            return -1;
        }
        rules.add(r.clone());
        oracle = null;
        return rules.size() - 1;
    }

    boolean drop(int k) {
        if (k < 0 || k >= rules.size()) {
            return false;
        }
        rules.remove(k);
        oracle = null;
        return true;
    }

    int rules() {
        return rules.size();
    }

    int number(int k, int i) {
        return k < 0 || k >= rules.size() || i < 0 || i > 6 ? 0 : rules.get(k)[i];
    }

    boolean keeps(int... v) {
        for (int[] rule : rules) {
            BigInteger made = BigInteger.ZERO;
            for (int i = 0; i < 6; i++) {
                if (i % 3 < variables) {
                    made = made.add(BigInteger.valueOf(rule[i]).multiply(BigInteger.valueOf(v[i])));
                }
            }
            if (made.compareTo(BigInteger.valueOf(rule[6])) > 0) {
                return false;
            }
        }
        return true;
    }

    boolean hasTurn() {
        return oracle().hasTurn();
    }

    boolean ranked() {
        return oracle().ranked();
    }

    boolean ranks(int... r) {
        return areAll(r, 999) && oracle().ranks(r, r[3]);
    }

    int least(int... p) {
        if (!areAll(p, 99)) {
            return -1;
        }
        top = 0;
        bottom = 0;
        if (!oracle().hasTurn()) {
            return 0;
        }
        BigInteger[] found = oracle().least(p);
        if (found == null) {
            return 1;
        }
        top = found[0].longValueExact();
        bottom = found[1].longValueExact();
        return 2;
    }

    long top() {
        return top;
    }

    long bottom() {
        return bottom;
    }

    private Oracle oracle() {
        if (oracle == null) {
            oracle = new Oracle(variables, rules.toArray(new int[0][]));
        }
        return oracle;
    }

    private static boolean areAll(int[] numbers, int limit) {
        for (int number : numbers) {
            if (number < -limit || number > limit) {
                return false;
            }
        }
        return true;
    }
}
