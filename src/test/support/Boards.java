/** Boards in the states that tests begin from, in the group of 23 and 4 (q is 11). */
final class Boards {
    static final long P = 23;
    static final long G = 4;
    static final long Q = 11;
    static final long LARGE_P = 2305843009213691579L;
    static final long LARGE_Q = 1152921504606845789L;

    private Boards() {
    }

    static Pair begun(String run, int trustees) {
        Pair pair = new Pair(run);
        pair.begin(P, G, trustees);
        return pair;
    }

    static Pair large(String run, int trustees) {
        Pair pair = new Pair(run);
        pair.begin(LARGE_P, G, trustees);
        return pair;
    }

    /** One trustee, no key. */
    static BallotBoard begunWith(long p) {
        BallotBoard board = new BallotBoard();
        board.begin(p, G, 1);
        return board;
    }

    /** The row with another number n. */
    static long[] with(long[] row, int n, long number) {
        long[] bent = row.clone();
        bent[n] = number;
        return bent;
    }

    /** The trustees' secrets are 3, 5, 7, 9. */
    static Pair withKeys(String run, int trustees) {
        Pair pair = begun(run, trustees);
        for (int i = 0; i < trustees; i++) {
            pair.makeKey(i, secret(i), i + 1);
        }
        return pair;
    }

    static long secret(int i) {
        return 3 + 2 * i;
    }

    /** Voters 0.. with the votes told: '1' or '0' each. */
    static Pair withBallots(String run, int trustees, String votes) {
        Pair pair = withKeys(run, trustees);
        for (int i = 0; i < votes.length(); i++) {
            pair.makeBallot(i, votes.charAt(i) == '1', (i + 2) % Q, (3 * i + 1) % Q, (5 * i) % Q, (7 * i + 4) % Q);
        }
        return pair;
    }

    static Pair closed(String run, int trustees, String votes) {
        Pair pair = withBallots(run, trustees, votes);
        pair.close();
        return pair;
    }

    static Pair shared(String run, int trustees, String votes) {
        Pair pair = closed(run, trustees, votes);
        for (int i = 0; i < trustees; i++) {
            pair.makeShare(i, secret(i), (4 * i + 2) % Q);
        }
        return pair;
    }

    /** 150 entries, of 64 voters, one trustee. */
    static Pair full(String run) {
        Pair pair = withKeys(run, 1);
        for (int k = 1; k < 150; k++) {
            pair.makeBallot(k % 64, k % 3 == 0, k % Q, 1, 2, 3);
        }
        return pair;
    }
}
