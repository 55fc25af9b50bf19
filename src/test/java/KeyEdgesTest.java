/** The boundaries that the document tells of KEYS (section 2, promises 3 and 4); each test quotes its sentence. */
public final class KeyEdgesTest {
    private static final int KEY_C = 3;
    private static final int KEY_Z = 4;

    private KeyEdgesTest() {
    }

    public static void main(String[] args) {
        trusteesAreZeroToLessThanN();
        oneKeyEach();
        keysEndWithTheClosing();
        hIsInTheGroup();
        exponentsOfKeyHaveBounds();
        exponentsOfLargeKeyHaveBounds();
        exponentsOfMakeKeyHaveBounds();
        proofHoldsForJustItsNumbers();
        commonKeyIsThereWithTheLastKey();
        keysAreNumberedAsTheyCome();
        Check.end();
    }

    /** "TRUSTEES 0..n - 1", "there is no TRUSTEE i". */
    private static void trusteesAreZeroToLessThanN() {
        for (int n = 1; n <= 4; n++) {
            Pair pair = Boards.begun("trustees of " + n, n);
            BallotBoard board = pair.board;
            int[] nobody = {-1, n, n + 1, 4, Integer.MIN_VALUE, Integer.MAX_VALUE};
            for (int i : nobody) {
                long[] row = pair.reference.keyByTheRules(i, 3, 5);
                Edge.refusesArgument("key(" + i + ", ..) of " + n, board, () -> postKey(board, i, row));
                Edge.refusesArgument("makeKey(" + i + ", ..) of " + n, board, () -> board.makeKey(i, 3, 5));
            }
            int last = n - 1;
            long[] row = pair.reference.keyByTheRules(last, 3, 5);
            Check.answers("key(" + last + ", ..) of " + n, 0, () -> postKey(board, last, row));
            if (last > 0) {
                Check.answers("makeKey(0, ..) of " + n, 1, () -> board.makeKey(0, 3, 5));
            }
        }
    }

    /** "One each", "the KEY of i is there": that of another TRUSTEE is not, and all else is looked at later. */
    private static void oneKeyEach() {
        Pair pair = Boards.begun("one key each", 3);
        BallotBoard board = pair.board;
        long[] row = pair.reference.keyByTheRules(1, 3, 5);
        long[] other = pair.reference.keyByTheRules(1, 4, 6);
        Check.answers("the key of 1", 0, () -> postKey(board, 1, row));
        Edge.refusesState("the key of 1 again", board, () -> postKey(board, 1, row));
        Edge.refusesState("another key of 1", board, () -> postKey(board, 1, other));
        Edge.refusesState("the key of 1 again, h 0", board, () -> board.key(1, 0, row[KEY_C], row[KEY_Z]));
        Edge.refusesState("the key of 1 again, c -1", board, () -> board.key(1, row[2], -1, row[KEY_Z]));
        Edge.refusesState("the key of 1 again, z q", board, () -> board.key(1, row[2], row[KEY_C], Boards.Q));
        Edge.refusesState("makeKey of 1 again", board, () -> board.makeKey(1, 4, 6));
        Edge.refusesState("makeKey of 1 again, x -1", board, () -> board.makeKey(1, -1, 6));
        Edge.refusesState("makeKey of 1 again, w q", board, () -> board.makeKey(1, 4, Boards.Q));
        Check.answers("the key of 0", 1, () -> board.makeKey(0, 4, 6));
        Edge.refusesState("makeKey of 0 again", board, () -> board.makeKey(0, 4, 6));
        Check.answers("the key of 2", 2, () -> board.makeKey(2, 4, 6));
        for (int i = 0; i < 3; i++) {
            int who = i;
            Edge.refusesState("all keys there, makeKey of " + i, board, () -> board.makeKey(who, 4, 6));
        }
    }

    /** "it is closed": looked at before i, so that i that is no TRUSTEE's is refused for another reason then. */
    private static void keysEndWithTheClosing() {
        BallotBoard board = Boards.withKeys("closing", 2).board;
        int[] whos = {-1, 2, Integer.MIN_VALUE, Integer.MAX_VALUE};
        for (int i : whos) {
            Edge.refusesArgument("open: key(" + i + ", ..)", board, () -> board.key(i, 1, 0, 0));
            Edge.refusesArgument("open: makeKey(" + i + ", ..)", board, () -> board.makeKey(i, 1, 1));
        }
        Check.answers("close()", 0, board::close);
        for (int i : whos) {
            Edge.refusesState("closed: key(" + i + ", ..)", board, () -> board.key(i, 1, 0, 0));
            Edge.refusesState("closed: makeKey(" + i + ", ..)", board, () -> board.makeKey(i, 1, 1));
        }
        Edge.refusesState("closed: makeKey(0, ..)", board, () -> board.makeKey(0, 1, 1));
        Edge.refusesState("closed: makeKey(1, -1, q)", board, () -> board.makeKey(1, -1, Boards.Q));
    }

    /** "h is IN THE GROUP", "the proof does not hold (as if h is not IN THE GROUP)": with each c, z for each h. */
    private static void hIsInTheGroup() {
        for (long h = -13; h <= 24; h++) {
            boolean due = h == 1 || h == 3 || h == 4 || h == 5 || h == 9;
            Check.holds("a key with h " + h + " is " + (due ? "taken" : "refused"), someKeyIsTaken(h) == due);
        }
        BallotBoard board = Boards.begun("h", 1).board;
        long[] wrong = {0, -1, 22, 23, 24, 27, Long.MIN_VALUE, Long.MAX_VALUE};
        for (long h : wrong) {
            Edge.refusesArgument("key(0, " + h + ", 0, 0)", board, () -> board.key(0, h, 0, 0));
        }
    }

    /** In the group of 11 and 4, where 9, that is p - 2, is the highest number IN it. */
    private static boolean someKeyIsTaken(long h) {
        for (long c = 0; c < 5; c++) {
            for (long z = 0; z < 5; z++) {
                BallotBoard board = new BallotBoard();
                board.begin(11, 4, 1);
                long[] row = {1, 0, h, c, z};
                if (Check.outcome(() -> postKey(board, 0, row)).equals("0")) {
                    return true;
                }
            }
        }
        return false;
    }

    /** "exponents are 0 to q - 1", "c, z are no exponents": what is q more or less leaves the same, but is none. */
    private static void exponentsOfKeyHaveBounds() {
        for (int n = KEY_C; n <= KEY_Z; n++) {
            long[] ends = {0, 1, Boards.Q - 2, Boards.Q - 1};
            for (long end : ends) {
                exponentIsTaken(n, end);
            }
        }
    }

    private static void exponentIsTaken(int n, long exponent) {
        Pair pair = Boards.begun("key with " + exponent, 2);
        long[] row = keyWith(pair.reference, n, exponent);
        Check.holds("a key is found whose number " + n + " is " + exponent, row != null);
        if (row != null) {
            long[] wrong = {exponent - Boards.Q, exponent + Boards.Q, exponent + 2 * Boards.Q, exponent + (1L << 32), exponent + Long.MIN_VALUE};
            for (long number : wrong) {
                long[] bent = Boards.with(row, n, number);
                Edge.refusesArgument("key, number " + n + " is " + number, pair.board, () -> postKey(pair.board, 1, bent));
            }
            Check.answers("key, number " + n + " is " + exponent, 0, () -> postKey(pair.board, 1, row));
        }
    }

    private static long[] keyWith(Reference reference, int n, long number) {
        for (int draw = 0; draw < Boards.Q * Boards.Q; draw++) {
            long[] row = reference.keyByTheRules(1, draw % Boards.Q, draw / Boards.Q);
            if (row[n] == number) {
                return row;
            }
        }
        return null;
    }

    /** The same with the largest p; h is 1, so that z is w. */
    private static void exponentsOfLargeKeyHaveBounds() {
        long[] ends = {0, Boards.LARGE_Q - 1};
        for (long end : ends) {
            Pair pair = Boards.large("large key", 1);
            long[] row = pair.reference.keyByTheRules(0, 0, end);
            Check.holds("z of a large key is " + end, row[KEY_Z] == end);
            long[] wrong = {-1, Boards.LARGE_Q, row[KEY_Z] - Boards.LARGE_Q, row[KEY_Z] + Boards.LARGE_Q, Long.MIN_VALUE, Long.MAX_VALUE};
            for (long number : wrong) {
                long[] bent = Boards.with(row, KEY_Z, number);
                Edge.refusesArgument("large key, z " + number, pair.board, () -> postKey(pair.board, 0, bent));
            }
            long[] less = Boards.with(row, KEY_C, row[KEY_C] - Boards.LARGE_Q);
            long[] more = Boards.with(row, KEY_C, row[KEY_C] + Boards.LARGE_Q);
            Edge.refusesArgument("large key, c less q", pair.board, () -> postKey(pair.board, 0, less));
            Edge.refusesArgument("large key, c more q", pair.board, () -> postKey(pair.board, 0, more));
            Check.answers("large key, z " + end, 0, () -> postKey(pair.board, 0, row));
        }
    }

    /** Promise 4, "x, w are no exponents". */
    private static void exponentsOfMakeKeyHaveBounds() {
        long[] primes = {7, Boards.P, Boards.LARGE_P};
        for (long p : primes) {
            long q = p / 2;
            long[] wrong = {-1, q, q + 1, -q, p, Long.MIN_VALUE, Long.MAX_VALUE};
            for (long number : wrong) {
                BallotBoard board = Boards.begunWith(p);
                Edge.refusesArgument("makeKey of " + p + ", x " + number, board, () -> board.makeKey(0, number, 0));
                Edge.refusesArgument("makeKey of " + p + ", w " + number, board, () -> board.makeKey(0, 0, number));
                Edge.refusesArgument("makeKey of " + p + ", both " + number, board, () -> board.makeKey(0, number, number));
            }
            long[] right = {0, 1, q - 2, q - 1};
            for (long number : right) {
                BallotBoard first = Boards.begunWith(p);
                Check.answers("makeKey of " + p + ", x " + number, 0, () -> first.makeKey(0, number, 0));
                BallotBoard second = Boards.begunWith(p);
                Check.answers("makeKey of " + p + ", w " + number, 0, () -> second.makeKey(0, 0, number));
                BallotBoard third = Boards.begunWith(p);
                Check.answers("makeKey of " + p + ", both " + number, 0, () -> third.makeKey(0, number, number));
            }
        }
    }

    /** "One that is posted is taken, if its proof holds, else refused": each number is moved to both sides. */
    private static void proofHoldsForJustItsNumbers() {
        Pair pair = Boards.large("proof of a key", 2);
        long[] row = pair.reference.keyByTheRules(1, 123456789123456789L, 987654321987654321L);
        for (int n = 2; n <= KEY_Z; n++) {
            for (long step = -1; step <= 1; step += 2) {
                long[] bent = Boards.with(row, n, row[n] + step);
                Edge.refusesArgument("key, number " + n + " moved by " + step, pair.board, () -> postKey(pair.board, 1, bent));
            }
        }
        long[] negated = Boards.with(row, 2, Boards.LARGE_P - row[2]);
        Edge.refusesArgument("key, -h", pair.board, () -> postKey(pair.board, 1, negated));
        Edge.refusesArgument("key of 1 posted as that of 0", pair.board, () -> postKey(pair.board, 0, row));
        Check.answers("key as it should be", 0, () -> postKey(pair.board, 1, row));
    }

    /** "When all KEYS are there, K is their product": 0 stands for K before. */
    private static void commonKeyIsThereWithTheLastKey() {
        for (int n = 1; n <= 4; n++) {
            BallotBoard board = Boards.begun("K of " + n, n).board;
            long product = 1;
            for (int i = 0; i < n; i++) {
                Check.answers("K with " + i + " keys of " + n, 0, () -> board.count(3));
                Edge.refusesState("ballot with " + i + " keys of " + n, board, () -> board.makeBallot(0, true, 1, 1, 1, 1));
                Edge.refusesState("close() with " + i + " keys of " + n, board, board::close);
                board.makeKey(i, Boards.secret(i), 1);
                product = product * board.entry(i, 2) % Boards.P;
            }
            Check.answers("K of " + n, product, () -> board.count(3));
            Check.answers("ballot with all keys of " + n, n, () -> board.makeBallot(0, true, 1, 1, 1, 1));
            Check.answers("close() with all keys of " + n, 1, board::close);
        }
    }

    /** "A KEY is posted: the number of the ENTRY", which a refused one does not use up. */
    private static void keysAreNumberedAsTheyCome() {
        BallotBoard board = Boards.begun("numbers of keys", 4).board;
        for (int k = 0; k < 4; k++) {
            int who = 3 - k;
            Check.answers("count(8) before key " + k, k, () -> board.count(8));
            Edge.refusesArgument("key " + k + ", x -1", board, () -> board.makeKey(who, -1, 1));
            Check.answers("key " + k, k, () -> board.makeKey(who, 2, 1));
        }
        Check.answers("count(8) at the end", 4, () -> board.count(8));
    }

    private static long postKey(BallotBoard board, int i, long[] row) {
        return board.key(i, row[2], row[KEY_C], row[KEY_Z]);
    }
}
