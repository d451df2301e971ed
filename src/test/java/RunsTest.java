import java.util.ArrayList;
import java.util.Arrays;
import java.util.List;
import java.util.Random;

/**
 * Runs of 512 random calls, refused ones among them, whose answers are held against Model's. The seeds
 * are fixed.
 */
public final class RunsTest {
    private static final int[] ODD_NUMBERS = {
        10, -10, 100, -100, 1000, -1000, 256, 65536, Integer.MAX_VALUE, Integer.MIN_VALUE};

    private final Random random;
    private final CountedFinder finder = new CountedFinder();
    private final Model model = new Model();
    private final List<String> calls = new ArrayList<>();
    private final int factor;
    private boolean isWrong = false;

    private RunsTest(long seed) {
        random = new Random(seed);
        factor = new int[] {1, 2, 9}[random.nextInt(3)];
    }

    public static void main(String[] args) {
        int runs = args.length > 0 ? Integer.parseInt(args[0]) : 150;
        long firstSeed = args.length > 1 ? Long.parseLong(args[1]) : 1;
        int wrong = 0;
        for (int i = 0; i < runs && wrong < 5; i++) {
            RunsTest run = new RunsTest(firstSeed + i);
            while (!run.isWrong && run.finder.calls() < CountedFinder.MOST_CALLS) {
                run.callOnce();
            }
            wrong += run.isWrong ? 1 : 0;
        }
        System.out.println(wrong == 0 ? "all " + runs + " runs are as due" : wrong + " runs are not as due");
        System.exit(wrong == 0 ? 0 : 1);
    }

    private void callOnce() {
        switch (random.nextInt(40)) {
            case 0 -> begin();
            case 1, 2, 3, 4 -> drop();
            case 5, 6 -> due("rules()", finder.rules(), model.rules());
            case 7, 8 -> number();
            case 9, 10, 11 -> keeps();
            case 12, 13 -> due("hasTurn()", finder.hasTurn(), model.hasTurn());
            case 14, 15 -> due("ranked()", finder.ranked(), model.ranked());
            case 16, 17, 18, 19 -> ranks();
            case 20, 21, 22, 23, 24 -> least();
            case 25, 26, 27 -> due("top()", finder.top(), model.top());
            case 28, 29, 30 -> due("bottom()", finder.bottom(), model.bottom());
            default -> rule();
        }
    }

    private void begin() {
        int n = random.nextInt(6);
        due("begin(" + n + ")", finder.begin(n), model.begin(n));
    }

    private void drop() {
        int k = random.nextInt(11) - 1;
        due("drop(" + k + ")", finder.drop(k), model.drop(k));
    }

    private void number() {
        int k = random.nextInt(11) - 1;
        int i = random.nextInt(9) - 1;
        due("number(" + k + ", " + i + ")", finder.number(k, i), model.number(k, i));
    }

    private void rule() {
        int[] r = numbers(7, factor);
        if (random.nextInt(3) == 0) {
            for (int v = 0; v < 3; v++) {
                // A fall or a rise of a function, as loops that are ranked have it.
                r[3 + v] = -r[v];
            }
        } else if (random.nextInt(2) == 0) {
            Arrays.fill(r, 3, 6, 0);
        }
        r[6] = random.nextInt(4) == 0 ? random.nextInt(199) - 99 : random.nextInt(5) - 3;
        spoil(r);
        due("rule" + Arrays.toString(r), finder.rule(r), model.rule(r));
    }

    private void keeps() {
        int[] v = numbers(6, 20);
        spoil(v);
        due("keeps" + Arrays.toString(v), finder.keeps(v), model.keeps(v));
    }

    private void ranks() {
        int[] r = random.nextBoolean() ? likeARule(4) : numbers(4, random.nextInt(4) == 0 ? 999 : 2);
        r[3] = random.nextBoolean() ? 999 : random.nextInt(1999) - 999;
        spoil(r);
        due("ranks" + Arrays.toString(r), finder.ranks(r), model.ranks(r));
    }

    private void least() {
        int[] p = random.nextBoolean() ? likeARule(6) : numbers(6, random.nextInt(4) == 0 ? 99 : 2);
        spoil(p);
        due("least" + Arrays.toString(p), finder.least(p), model.least(p));
    }

    /** A multiple of a rule taken negatively, which the rule itself bounds below. */
    private int[] likeARule(int length) {
        int[] made = new int[length];
        int k = random.nextInt(Math.max(1, model.rules()));
        int times = -1 - random.nextInt(9);
        for (int i = 0; i < length; i++) {
            made[i] = times * model.number(k, i);
        }
        return made;
    }

    private int[] numbers(int length, int limit) {
        int[] made = new int[length];
        for (int i = 0; i < length; i++) {
            made[i] = random.nextInt(2 * limit + 1) - limit;
        }
        return made;
    }

    private void spoil(int[] numbers) {
        if (random.nextInt(8) == 0) {
            numbers[random.nextInt(numbers.length)] = ODD_NUMBERS[random.nextInt(ODD_NUMBERS.length)];
        }
    }

    private void due(String call, boolean got, boolean want) {
        due(call, got ? 1 : 0, want ? 1 : 0);
    }

    private void due(String call, long got, long want) {
        calls.add(call);
        if (got != want) {
            isWrong = true;
            System.out.println("the last call of " + calls + " answered " + got + ", due is " + want);
        }
    }
}
