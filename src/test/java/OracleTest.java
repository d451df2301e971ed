import java.math.BigInteger;
import java.util.Random;

/** Random loops of several kinds, each answer held against Oracle's. The seeds are fixed. */
public final class OracleTest {
    private static final int CALLS_OF_A_LOOP = 40;
    private static int wrong = 0;
    private static final int[] seen = new int[10];

    public static void main(String[] args) {
        int loops = args.length > 0 ? Integer.parseInt(args[0]) : 600;
        for (int kind = 0; kind < 8; kind++) {
            Random random = new Random(1000 + kind + (args.length > 1 ? Long.parseLong(args[1]) : 0));
            for (int n = 1; n <= 3; n++) {
                CountedFinder finder = new CountedFinder();
                for (int i = 0; i < loops && wrong < 20; i++) {
                    if (finder.calls() + CALLS_OF_A_LOOP > CountedFinder.MOST_CALLS) {
                        finder = new CountedFinder();
                    }
                    tryLoop(finder, n, kind, random);
                }
            }
        }
        String[] names = {"empty", "not empty", "ranked", "not ranked", "least 0", "least 1", "least 2",
            "ranks", "does not rank", "fraction"};
        for (int i = 0; i < names.length; i++) {
            System.out.print(names[i] + " " + seen[i] + (i + 1 < names.length ? ", " : "\n"));
            if (seen[i] == 0) {
                report("never seen: " + names[i]);
            }
        }
        System.exit(wrong == 0 ? 0 : 1);
    }

    private static void tryLoop(CountedFinder finder, int n, int kind, Random random) {
        int[] planted = plantedFunction(random);
        int[][] rules = kind < 7 ? loop(n, kind, random) : plantedLoop(planted, random);
        finder.begin(n);
        for (int[] r : rules) {
            finder.rule(r);
        }
        Oracle oracle = new Oracle(n, rules);
        String about = n + " " + java.util.Arrays.deepToString(rules);
        check(about + " hasTurn", finder.hasTurn(), oracle.hasTurn());
        check(about + " ranked", finder.ranked(), oracle.ranked());
        seen[oracle.hasTurn() ? 1 : 0]++;
        if (oracle.hasTurn()) {
            seen[oracle.ranked() ? 2 : 3]++;
        }
        for (int i = 0; i < 4; i++) {
            tryLeast(finder, oracle, goal(n, i, rules, random), about);
            tryRanks(finder, oracle, someFunction(i, random), random, about);
            tryRanks(finder, oracle, multiple(planted, random), random, about);
        }
    }

    private static void tryLeast(CountedFinder finder, Oracle oracle, int[] g, String about) {
        int found = finder.least(g);
        String what = about + " least " + java.util.Arrays.toString(g);
        BigInteger[] due = oracle.least(g);
        int dueFound = !oracle.hasTurn() ? 0 : due == null ? 1 : 2;
        check(what, found, dueFound);
        check(what + " top", finder.top(), dueFound == 2 ? due[0].longValueExact() : 0);
        check(what + " bottom", finder.bottom(), dueFound == 2 ? due[1].longValueExact() : 0);
        seen[4 + dueFound]++;
        if (finder.bottom() > 1) {
            seen[9]++;
        }
    }

    private static int[] someFunction(int way, Random random) {
        int size = way == 0 ? 1 : way == 1 ? 9 : 999;
        int[] r = new int[3];
        for (int i = 0; i < 3; i++) {
            r[i] = way == 3 ? 999 * (random.nextInt(3) - 1) : random.nextInt(2 * size + 1) - size;
        }
        return r;
    }

    private static int[] multiple(int[] function, Random random) {
        int[] r = function.clone();
        int times = random.nextBoolean() ? 111 : 1 + random.nextInt(5);
        for (int i = 0; i < 3; i++) {
            r[i] *= times;
        }
        return r;
    }

    private static void tryRanks(
            CountedFinder finder, Oracle oracle, int[] r, Random random, String about) {
        int s = random.nextInt(1999) - 999;
        String what = about + " ranks " + java.util.Arrays.toString(r) + " " + s;
        boolean due = oracle.ranks(r, s);
        check(what, finder.ranks(r[0], r[1], r[2], s), due);
        if (oracle.hasTurn()) {
            seen[due ? 7 : 8]++;
        }
    }

    /** Some goals are sums of rules taken negatively, which have a least more often. */
    private static int[] goal(int n, int way, int[][] rules, Random random) {
        int[] made = new int[6];
        for (int i = 0; i < 6; i++) {
            made[i] = way == 0 ? 99 * (2 * random.nextInt(2) - 1) : random.nextInt(199) - 99;
        }
        if (way >= 2) {
            made = new int[6];
            for (int[] rule : rules) {
                int weight = random.nextInt(way);
                for (int i = 0; i < 6; i++) {
                    made[i] = Math.max(-99, Math.min(99, made[i] - weight * rule[i]));
                }
            }
        }
        return made;
    }

    private static int[][] loop(int n, int kind, Random random) {
        int count = kind == 1 || kind == 3 ? 8 : random.nextInt(9);
        int[][] rules = new int[count][7];
        int[] factors = {9, 9, 1, 1, 2, 3, 9};
        for (int k = 0; k < count; k++) {
            for (int i = 0; i < 6; i++) {
                int factor = factors[kind];
                rules[k][i] = kind == 1 ? factor * (2 * random.nextInt(2) - 1)
                        : random.nextInt(2 * factor + 1) - factor;
            }
            rules[k][6] = kind == 1 ? 99 * (2 * random.nextInt(2) - 1)
                    : kind == 2 || kind == 3 ? random.nextInt(3) - 1 : random.nextInt(199) - 99;
            if (kind >= 4) {
                shape(rules, k, n, random);
            }
        }
        return rules;
    }

    private static int[] plantedFunction(Random random) {
        int[] r = new int[3];
        for (int i = 0; i < 3; i++) {
            r[i] = random.nextInt(19) - 9;
        }
        return r;
    }

    /** Rules that sum up to a bound of r and to a fall of it, each spread over up to four of them. */
    private static int[][] plantedLoop(int[] r, Random random) {
        int forBound = 1 + random.nextInt(4);
        int forFall = 1 + random.nextInt(4);
        int[][] rules = new int[forBound + forFall][7];
        for (int i = 0; i < 3; i++) {
            spread(rules, 0, forBound, i, -r[i], random);
            spread(rules, 0, forBound, 3 + i, 0, random);
            spread(rules, forBound, forFall, i, -r[i], random);
            spread(rules, forBound, forFall, 3 + i, r[i], random);
        }
        for (int[] rule : rules) {
            rule[6] = random.nextInt(80) - 40;
        }
        return rules;
    }

    private static void spread(int[][] rules, int from, int count, int i, int sum, Random random) {
        int left = sum;
        for (int k = from + count - 1; k > from; k--) {
            // What is left must fit the first rule in the end.
            int part = random.nextInt(19) - 9;
            if (Math.abs(left - part) <= 9) {
                rules[k][i] = part;
                left -= part;
            }
        }
        rules[from][i] = left;
    }

    /** Makes rules as loops have them: bounds before the turn, changes, and equations of two rules. */
    private static void shape(int[][] rules, int k, int n, Random random) {
        int[] rule = rules[k];
        switch (random.nextInt(5)) {
            case 0:
                rule[3] = rule[4] = rule[5] = 0;
                break;
            case 1:
                for (int i = 0; i < 3; i++) {
                    rule[3 + i] = -rule[i];
                }
                rule[6] = random.nextInt(4) - 3;
                break;
            case 2:
                java.util.Arrays.fill(rule, 0, 6, 0);
                int v = random.nextInt(n);
                rule[v] = -1;
                rule[3 + v] = random.nextInt(2);
                rule[6] = -random.nextInt(3);
                break;
            case 3:
                if (k > 0) {
                    for (int i = 0; i < 7; i++) {
                        rule[i] = -rules[k - 1][i];
                    }
                }
                break;
            default:
                break;
        }
    }

    private static void check(String what, boolean got, boolean due) {
        check(what, got ? 1 : 0, due ? 1 : 0);
    }

    private static void check(String what, long got, long due) {
        if (got != due) {
            report(what + " answered " + got + ", due is " + due);
        }
    }

    private static void report(String what) {
        wrong++;
        System.out.println(what);
    }
}
