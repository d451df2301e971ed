/**
 * A RankFinder whose calls are counted. What it answers behind its 512th call is free, so a test that
 * looks there would ask for more than the document does, and is stopped.
 */
final class CountedFinder {
    static final int MOST_CALLS = 512;

    private final RankFinder finder = new RankFinder();
    private int calls = 0;

    int calls() {
        return calls;
    }

    boolean begin(int n) {
        return counted().begin(n);
    }

    int rule(int... r) {
        return counted().rule(r[0], r[1], r[2], r[3], r[4], r[5], r[6]);
    }

    boolean drop(int k) {
        return counted().drop(k);
    }

    int rules() {
        return counted().rules();
    }

    int number(int k, int i) {
        return counted().number(k, i);
    }

    boolean keeps(int... v) {
        return counted().keeps(v[0], v[1], v[2], v[3], v[4], v[5]);
    }

    boolean hasTurn() {
        return counted().hasTurn();
    }

    boolean ranked() {
        return counted().ranked();
    }

    boolean ranks(int... r) {
        return counted().ranks(r[0], r[1], r[2], r[3]);
    }

    int least(int... p) {
        return counted().least(p[0], p[1], p[2], p[3], p[4], p[5]);
    }

    long top() {
        return counted().top();
    }

    long bottom() {
        return counted().bottom();
    }

    private RankFinder counted() {
        calls++;
        if (calls > MOST_CALLS) {
            throw new IllegalStateException("a test makes more than " + MOST_CALLS + " calls of one object");
        }
        return finder;
    }
}
